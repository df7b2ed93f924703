import java.util.ArrayList;
import java.util.Comparator;
import java.util.List;
import java.util.Set;
import java.util.TreeSet;
import java.util.stream.Collectors;

/**
 * The document once more, written another way: it keeps only the calls that went, in their order,
 * and works every answer out of them anew.
 */
final class Replay {
    private static final List<Set<Integer>> FOLLOWS = List.of(
        Set.of(1, 2, 3, 4, 5, 6), Set.of(0, 4), Set.of(0, 3), Set.of(0, 6), Set.of(0), Set.of(0, 3),
        Set.of(0, 1, 2, 3, 4, 5));

    private record Card(int type, long barcode, int digits, int home) { }

    /** What went: an act (state 0 to 7), a word on floating (state FLOAT) or a want (state WANT). */
    private record Deed(int copy, int state, int value, long day, boolean late) { }

    private static final int FLOAT = 100;
    private static final int WANT = 101;

    private final List<Card> cards = new ArrayList<>();
    private final List<Deed> deeds = new ArrayList<>();
    private final Set<Integer> withoutRight = new TreeSet<>();
    private final int[] fees = new int[6];

    int check(long number, int digits) {
        if (digits < 1 || digits > 12 || number < 0 || Long.toString(number).length() > digits) {
            return -1;
        }
        int sum = 0;
        String text = new StringBuilder(Long.toString(number)).reverse().toString();
        for (int i = 0; i < text.length(); i++) {
            int digit = (text.charAt(i) - '0') * (i % 2 == 0 ? 2 : 1);
            sum += digit / 10 + digit % 10;
        }
        return Math.floorMod(-sum, 10);
    }

    int copy(int type, long barcode, int digits, int home) {
        boolean sound = type >= 0 && type <= 5 && home >= 0 && home <= 9 && barcode >= 0
            && check(barcode / 10, digits) >= 0 && check(barcode / 10, digits) == barcode % 10;
        if (!sound || cards.size() == 80
            || cards.stream().anyMatch(c -> c.barcode == barcode && c.digits == digits)) {
            return -1;
        }
        if (withoutRight.contains(home * 100 + type)) {
            return -3;
        }
        cards.add(new Card(type, barcode, digits, home));
        return cards.size();
    }

    boolean right(int place, int type, boolean on) {
        if (place < 0 || place > 9 || type < 0 || type > 5) {
            return false;
        }
        int key = place * 100 + type;
        return on ? !withoutRight.remove(key) : withoutRight.add(key);
    }

    int fee(int type, int cents) {
        if (type < 0 || type > 5 || cents < 0 || cents > 1000000) {
            return -1;
        }
        int before = fees[type];
        fees[type] = cents;
        return before;
    }

    int act(int copy, int kind, int place, long day) {
        if (no(copy) || kind < 0 || kind > 6 || day < 0 || day > 1000000000000L) {
            return -1;
        }
        if (kind == 2 && (place < 0 || place > 9 || place == place(copy))) {
            return -1;
        }
        boolean late = day < greatest();
        if (!FOLLOWS.get(kind).contains(late ? state(copy, day) : now(copy))) {
            return -2;
        }
        int type = cards.get(copy - 1).type;
        if (kind == 2 && withoutRight.contains(place * 100 + type)) {
            return -3;
        }
        if (kind == 0 && !late && now(copy) == 2 && withoutRight.contains(place(copy) * 100 + type)) {
            return -3;
        }
        int value = kind == 2 ? place : kind == 6 && now(copy) == 1 ? fees[type] : 0;
        deeds.add(new Deed(copy, kind, value, day, late));
        return kind;
    }

    int state(int copy, long day) {
        if (no(copy)) {
            return -1;
        }
        int state = 3;
        for (Deed deed : inOrder(copy)) {
            if (deed.day <= day) {
                state = deed.state;
            }
        }
        return state;
    }

    int place(int copy) {
        if (no(copy)) {
            return -1;
        }
        int place = cards.get(copy - 1).home;
        for (Deed deed : deeds) {
            if (deed.copy == copy && deed.state == 2 && !deed.late) {
                place = deed.value;
            }
        }
        return place;
    }

    boolean floats(int copy, boolean on) {
        if (no(copy)) {
            return false;
        }
        int before = 0;
        for (Deed deed : deeds) {
            if (deed.copy == copy && deed.state == FLOAT) {
                before = deed.value;
            }
        }
        deeds.add(new Deed(copy, FLOAT, on ? 1 : 0, -1, false));
        return before == 1;
    }

    int home(int copy) {
        if (no(copy)) {
            return -1;
        }
        int home = cards.get(copy - 1).home;
        int place = home;
        boolean floats = false;
        for (Deed deed : deeds) {
            if (deed.copy != copy || deed.late) {
                continue;
            }
            if (deed.state == FLOAT) {
                floats = deed.value == 1;
            } else if (deed.state == 2) {
                place = deed.value;
            } else if (deed.state == 0 && floats) {
                home = place;
            }
        }
        return home;
    }

    int weed(int copy, int by) {
        if (no(copy) || by < 0 || by > 99) {
            return -1;
        }
        Set<Integer> wanting = new TreeSet<>();
        for (Deed deed : deeds) {
            if (deed.copy == copy && deed.state == WANT) {
                wanting.add(deed.value);
            } else if (deed.copy == copy && deed.state <= 7 && !deed.late) {
                wanting.clear();
            }
        }
        if (!Set.of(0, 3, 6).contains(now(copy)) || !wanting.add(by)) {
            return -2;
        }
        deeds.add(new Deed(copy, WANT, by, -1, false));
        if (wanting.size() == 2) {
            deeds.add(new Deed(copy, 7, 0, Math.max(0, greatest()) + 1, false));
        }
        return wanting.size();
    }

    int owed(int copy) {
        if (no(copy)) {
            return -1;
        }
        return deeds.stream().filter(d -> d.copy == copy && d.state == 6 && !d.late)
            .mapToInt(Deed::value).sum();
    }

    int history(int copy, int i, int what) {
        if (no(copy) || what < 0 || what > 1 || i < 0 || i >= inOrder(copy).size()) {
            return -1;
        }
        Deed deed = inOrder(copy).get(i);
        return what == 0 ? deed.state : deed.late ? 1 : 0;
    }

    int count(int state, int home) {
        int found = 0;
        for (int copy = 1; copy <= cards.size(); copy++) {
            if (now(copy) == state && (home == -1 || home(copy) == home)) {
                found++;
            }
        }
        return found;
    }

    private boolean no(int copy) {
        return copy < 1 || copy > cards.size();
    }

    private long greatest() {
        return deeds.stream().filter(d -> d.state <= 7).mapToLong(Deed::day).max().orElse(-1);
    }

    private int now(int copy) {
        int state = 3;
        for (Deed deed : deeds) {
            if (deed.copy == copy && deed.state <= 7 && !deed.late) {
                state = deed.state;
            }
        }
        return state;
    }

    // The sort is stable, so the acts of one day stay as they were entered.
    private List<Deed> inOrder(int copy) {
        return deeds.stream().filter(d -> d.copy == copy && d.state <= 7)
            .sorted(Comparator.comparingLong(Deed::day)).collect(Collectors.toList());
    }
}

import java.math.BigInteger;
import java.util.ArrayList;
import java.util.HashMap;
import java.util.List;
import java.util.Map;
import java.util.TreeSet;
import java.util.regex.Matcher;
import java.util.regex.Pattern;

/**
 * The document once more, as slowly as it can be said: DEGREES one by one, all states kept whole.
 * ModelTest compares it with the class, so it shares no way of working with it.
 */
final class SlowCold {
    static final int BAD = -1, FULL = -2, FINDING = -3, STATE = -4, NONE = -9;

    private static final class Person {
        char letter;
        int mark, width, room, cold, shift;

        Person copy() {
            Person p = new Person();
            p.letter = letter;
            p.mark = mark;
            p.width = width;
            p.room = room;
            p.cold = cold;
            p.shift = shift;
            return p;
        }
    }

    private static final class State {
        List<Person> people = new ArrayList<>();
        List<int[]> rooms = new ArrayList<>();
        int hour, soup, steps;

        State copy() {
            State s = new State();
            for (Person p : people) {
                s.people.add(p.copy());
            }
            for (int[] r : rooms) {
                s.rooms.add(r.clone());
            }
            s.hour = hour;
            s.soup = soup;
            s.steps = steps;
            return s;
        }

        int felt(Person p) {
            int f = p.mark + p.shift;
            if (soup > 0) {
                f += 1;
            }
            if (p.letter == 'm' || p.letter == 'a') {
                f += 2;
            }
            if (p.letter == 'a') {
                for (int h = 6; h <= hour; h += 6) {
                    f -= 1;
                }
            }
            return f;
        }

        boolean healthyDoes(Person p, int degree) {
            int f = felt(p);
            if (p.letter == 's') {
                return degree <= f;
            }
            if (p.letter == 'f') {
                return !(degree <= f);
            }
            if (p.letter == 't') {
                return f <= degree && degree <= f + p.width;
            }
            return degree >= f;
        }

        boolean does(Person p, int degree) {
            return p.cold == 0 && healthyDoes(p, degree);
        }

        boolean doesNow(Person p) {
            return does(p, rooms.get(p.room)[0]);
        }

        List<Person> in(int room) {
            List<Person> there = new ArrayList<>();
            for (Person p : people) {
                if (p.room == room) {
                    there.add(p);
                }
            }
            return there;
        }

        TreeSet<Integer> span(int room, List<Person> there) {
            TreeSet<Integer> span = new TreeSet<>();
            for (int d = 0; d <= 30; d++) {
                boolean same = true;
                for (Person p : there) {
                    same &= does(p, d) == does(p, rooms.get(room)[0]);
                }
                if (same) {
                    span.add(d);
                }
            }
            return span;
        }

        int known() {
            int set = 0;
            for (int r = 0; r < rooms.size(); r++) {
                if (span(r, in(r)).size() <= rooms.get(r)[1]) {
                    set += 1 << r;
                }
            }
            return set;
        }

        int passHour() {
            int got = 0;
            State before = copy();
            for (int i = 0; i < people.size(); i++) {
                Person p = people.get(i);
                if (p.cold > 0) {
                    p.cold--;
                    continue;
                }
                for (Person other : before.people) {
                    if (other.room == p.room && other.cold > 0) {
                        p.cold = 2;
                        got |= 1 << i;
                    }
                }
            }
            hour++;
            if (soup > 0) {
                soup--;
            }
            return got;
        }

        int sick() {
            int set = 0;
            for (int i = 0; i < people.size(); i++) {
                set |= (people.get(i).cold > 0 ? 1 : 0) << i;
            }
            return set;
        }

        List<Person> chosen(int set) {
            List<Person> some = new ArrayList<>();
            for (int i = 0; i < people.size(); i++) {
                if ((set & 1 << i) != 0) {
                    some.add(people.get(i));
                }
            }
            return some;
        }
    }

    private final int[][] rows = new int[6][];
    private final byte[][] texts = new byte[4][];
    private State now = new State();
    private List<State> past = new ArrayList<>();
    private final State[] keptNow = new State[3];
    private final List<List<State>> keptPast = new ArrayList<>();
    private int asked, finding;
    private long upper = 0, lower = 1;
    private final int[] findings = new int[6];

    SlowCold() {
        for (int k = 0; k < 3; k++) {
            keptPast.add(null);
        }
    }

    private int find(int f) {
        finding = f;
        findings[f]++;
        return FINDING;
    }

    private boolean none() {
        return now.people.isEmpty();
    }

    private boolean noRow(int r) {
        return r < 0 || r > 5;
    }

    private boolean noMember(int i) {
        return i < 0 || i >= now.people.size();
    }

    private boolean noRoom(int r) {
        return r < 0 || r >= now.rooms.size();
    }

    private static int bits(Iterable<Integer> set) {
        int b = 0;
        for (int n : set) {
            b |= 1 << n;
        }
        return b;
    }

    int row(int r, int n) {
        if (noRow(r) || n > 40) {
            return BAD;
        }
        if (n < 0) {
            return find(5);
        }
        rows[r] = new int[n];
        return n;
    }

    private int place(int r, int i) {
        if (noRow(r)) {
            return BAD;
        }
        if (rows[r] == null) {
            return find(1);
        }
        return i < 0 || i >= rows[r].length ? find(2) : 1;
    }

    int lay(int r, int i, int v) {
        int place = place(r, i);
        if (place == 1) {
            asked = rows[r][i];
            rows[r][i] = v;
        }
        return place;
    }

    int at(int r, int i) {
        int place = place(r, i);
        if (place == 1) {
            asked = rows[r][i];
        }
        return place;
    }

    int tear(int r) {
        if (noRow(r)) {
            return BAD;
        }
        if (rows[r] == null) {
            return find(1);
        }
        rows[r] = null;
        return 1;
    }

    int copy(int r, int i, int to, int j, int n) {
        if (noRow(r) || noRow(to)) {
            return BAD;
        }
        if (n < 0) {
            return find(5);
        }
        if (rows[r] == null || rows[to] == null) {
            return find(1);
        }
        if (i < 0 || j < 0 || (long) i + n > rows[r].length || (long) j + n > rows[to].length) {
            return find(2);
        }
        int[] ahead = rows[r].clone();
        for (int k = 0; k < n; k++) {
            rows[to][j + k] = ahead[i + k];
        }
        return 1;
    }

    int mean(int r) {
        if (noRow(r)) {
            return BAD;
        }
        if (rows[r] == null) {
            return find(1);
        }
        if (rows[r].length == 0) {
            return find(4);
        }
        BigInteger sum = BigInteger.ZERO;
        for (int v : rows[r]) {
            sum = sum.add(BigInteger.valueOf(v));
        }
        asked = sum.divide(BigInteger.valueOf(rows[r].length)).intValue();
        return 1;
    }

    int text(int t, int n) {
        if (t < 0 || t > 3 || n > 60) {
            return BAD;
        }
        if (n < 0) {
            return find(5);
        }
        texts[t] = " ".repeat(n).getBytes();
        return n;
    }

    int put(int t, int i, int v) {
        if (t < 0 || t > 3) {
            return BAD;
        }
        if (texts[t] == null) {
            return find(1);
        }
        if (i < 0 || i >= texts[t].length) {
            return find(2);
        }
        int was = texts[t][i];
        texts[t][i] = (byte) v;
        return was + 1000;
    }

    private static final String DEGREE = "(?:[012][0-9]|30)", NEED = "(?:0[1-9]|[12][0-9]|3[01])";

    /** The FAULT by what still fits: items that are whole are taken off, the next one is looked at sign by sign. */
    private int faultOf(String text) {
        Pattern room = Pattern.compile("r" + DEGREE + NEED);
        int from = 0;
        int rooms = 0;
        int members = 0;
        while (true) {
            while (from < text.length() && text.charAt(from) == ' ') {
                from++;
            }
            if (from == text.length()) {
                return members > 0 ? NONE : from;
            }
            Matcher m = room.matcher(text).region(from, text.length());
            if (rooms < 4 && members == 0 && m.lookingAt()) {
                rooms++;
                from = m.end();
                continue;
            }
            Pattern member = Pattern.compile("[ostmfa]" + DEGREE + "[0-9][0-" + Math.max(0, rooms - 1) + "]");
            m = member.matcher(text).region(from, text.length());
            if (rooms > 0 && members < 6 && m.lookingAt()) {
                members++;
                from = m.end();
                continue;
            }
            return faultInItem(text, from, rooms, members);
        }
    }

    private int faultInItem(String text, int from, int rooms, int members) {
        char c = text.charAt(from);
        boolean asRoom = c == 'r' && rooms < 4 && members == 0;
        boolean asMember = "ostmfa".indexOf(c) >= 0 && rooms > 0 && members < 6;
        if (!asRoom && !asMember) {
            return from;
        }
        for (int k = 1; k <= 4; k++) {
            if (from + k >= text.length()) {
                return text.length();
            }
            if (!Character.isDigit(text.charAt(from + k))) {
                return from + k;
            }
            if (k == 2 && !text.substring(from + 1, from + 3).matches(DEGREE)) {
                return from + 1;
            }
        }
        return asRoom ? from + 3 : from + 4;
    }

    private String asString(int t) {
        StringBuilder b = new StringBuilder();
        for (byte v : texts[t]) {
            b.append((char) (v & 255));
        }
        return b.toString();
    }

    int fault(int t) {
        if (t < 0 || t > 3) {
            return BAD;
        }
        return texts[t] == null ? find(1) : faultOf(asString(t));
    }

    int town(int t) {
        int f = fault(t);
        if (f == BAD || f == FINDING) {
            return f;
        }
        if (f != NONE) {
            return STATE;
        }
        now = new State();
        past = new ArrayList<>();
        for (int k = 0; k < 3; k++) {
            keptNow[k] = null;
            keptPast.set(k, null);
        }
        String signs = asString(t).replace(" ", "");
        for (int k = 0; k < signs.length(); k += 5) {
            String item = signs.substring(k, k + 5);
            int first = Integer.parseInt(item.substring(1, 3));
            if (item.charAt(0) == 'r') {
                now.rooms.add(new int[] {first, Integer.parseInt(item.substring(3))});
            } else {
                Person p = new Person();
                p.letter = item.charAt(0);
                p.mark = first;
                p.width = item.charAt(3) - '0';
                p.room = item.charAt(4) - '0';
                now.people.add(p);
            }
        }
        return now.people.size();
    }

    private int memberTells(int i, int what) {
        Person p = now.people.get(i);
        int[] all = {"ostmfa".indexOf(p.letter), p.mark, p.width, p.room, p.cold, p.shift, now.felt(p),
            now.doesNow(p) ? 1 : 0};
        return all[what];
    }

    int member(int i, int what) {
        if (noMember(i) || what < 0 || what > 7) {
            return BAD;
        }
        asked = memberTells(i, what);
        return 1;
    }

    int room(int r, int what) {
        if (noRoom(r) || what < 0 || what > 3) {
            return BAD;
        }
        if (what < 2) {
            return now.rooms.get(r)[what];
        }
        int set = 0;
        for (int i = 0; i < now.people.size(); i++) {
            Person p = now.people.get(i);
            if (p.room == r && (what == 2 || now.doesNow(p))) {
                set |= 1 << i;
            }
        }
        return set;
    }

    int mark(int i, int kind) {
        if (noMember(i) || kind < 1 || kind > 5) {
            return BAD;
        }
        Person p = now.people.get(i);
        String[] are = {"", "sf", "t", "ma", "f", "a"};
        if (are[kind].indexOf(p.letter) < 0) {
            return find(3);
        }
        int n = 0;
        if (kind == 1) {
            for (int d = 0; d <= 30; d++) {
                n += now.healthyDoes(p, d) ? 1 : 0;
            }
        } else if (kind == 2) {
            for (Person other : now.in(p.room)) {
                n += other != p && other.letter == 't' ? 1 : 0;
            }
        } else if (kind == 3) {
            n = Math.max(0, now.felt(p) - (p.mark + p.shift));
        } else if (kind == 4) {
            for (Person other : now.in(p.room)) {
                n += other.cold > 0 ? 1 : 0;
            }
        } else {
            State later = now.copy();
            do {
                later.hour++;
                n++;
            } while (later.hour % 6 != 0);
        }
        return n;
    }

    private void remember() {
        past.add(now.copy());
    }

    private boolean full() {
        return past.size() >= 40;
    }

    int walk(int i, int r) {
        if (noMember(i) || noRoom(r)) {
            return BAD;
        }
        Person p = now.people.get(i);
        if (p.room == r) {
            return STATE;
        }
        if (full()) {
            return FULL;
        }
        remember();
        now.steps += Math.abs(p.room - r);
        p.room = r;
        return now.steps;
    }

    int hour() {
        if (none()) {
            return STATE;
        }
        if (full()) {
            return FULL;
        }
        remember();
        return now.passHour();
    }

    int soup() {
        if (none()) {
            return STATE;
        }
        if (full()) {
            return FULL;
        }
        remember();
        now.soup = 3;
        return count(6);
    }

    int cold(int i) {
        if (noMember(i)) {
            return BAD;
        }
        if (now.people.get(i).cold != 0) {
            return STATE;
        }
        if (full()) {
            return FULL;
        }
        remember();
        now.people.get(i).cold = 2;
        return Integer.bitCount(now.sick());
    }

    int love(int i, int v) {
        if (noMember(i) || v < -5 || v > 5) {
            return BAD;
        }
        Person p = now.people.get(i);
        if (p.shift == v) {
            return STATE;
        }
        if (full()) {
            return FULL;
        }
        remember();
        p.shift = v;
        return now.doesNow(p) ? 1 : 0;
    }

    int fire(int r, int v) {
        if (noRoom(r) || v < 0 || v > 30) {
            return BAD;
        }
        int was = now.rooms.get(r)[0];
        if (was == v) {
            return STATE;
        }
        if (full()) {
            return FULL;
        }
        remember();
        now.rooms.get(r)[0] = v;
        return was;
    }

    int undo(int n) {
        if (n < 0 || n > past.size()) {
            return BAD;
        }
        int undone = 0;
        while (past.size() > n) {
            now = past.remove(past.size() - 1);
            undone++;
        }
        return undone;
    }

    private static List<State> copies(List<State> states) {
        List<State> list = new ArrayList<>();
        for (State s : states) {
            list.add(s.copy());
        }
        return list;
    }

    int keep(int k) {
        if (k < 0 || k > 2) {
            return BAD;
        }
        if (none()) {
            return STATE;
        }
        keptNow[k] = now.copy();
        keptPast.set(k, copies(past));
        return past.size();
    }

    int on(int k) {
        if (k < 0 || k > 2) {
            return BAD;
        }
        if (keptNow[k] == null) {
            return find(1);
        }
        now = keptNow[k].copy();
        past = copies(keptPast.get(k));
        return past.size();
    }

    int span(int r) {
        if (noRoom(r)) {
            return BAD;
        }
        TreeSet<Integer> span = now.span(r, now.in(r));
        asked = span.size();
        return bits(span);
    }

    private boolean noSet(int set) {
        return set < 0 || set >= 1 << now.people.size();
    }

    int spanBy(int r, int set) {
        return noRoom(r) || noSet(set) ? BAD : now.span(r, now.chosen(set)).size();
    }

    int known() {
        return now.known();
    }

    int box(int r, int n) {
        if (noRoom(r) || n < 0 || n > 6) {
            return BAD;
        }
        int best = NONE;
        for (int set = (1 << now.people.size()) - 1; set >= 0; set--) {
            if (now.chosen(set).size() == n && (best == NONE || spanBy(r, set) <= spanBy(r, best))) {
                best = set;
            }
        }
        if (best != NONE) {
            asked = spanBy(r, best);
        }
        return best;
    }

    /** All ways to be in ROOMS, the last by MEMBERS first. */
    private List<int[]> ways() {
        List<int[]> list = new ArrayList<>();
        list.add(new int[0]);
        for (int i = 0; i < now.people.size(); i++) {
            List<int[]> longer = new ArrayList<>();
            for (int[] way : list) {
                for (int r = now.rooms.size() - 1; r >= 0; r--) {
                    int[] more = java.util.Arrays.copyOf(way, i + 1);
                    more[i] = r;
                    longer.add(more);
                }
            }
            list = longer;
        }
        return list;
    }

    private int stepsOf(int[] way) {
        int sum = 0;
        for (int i = 0; i < way.length; i++) {
            sum += Math.abs(way[i] - now.people.get(i).room);
        }
        return sum;
    }

    private int knownBy(int[] way) {
        State there = now.copy();
        for (int i = 0; i < way.length; i++) {
            there.people.get(i).room = way[i];
        }
        return Integer.bitCount(there.known());
    }

    int send(int r) {
        if (noRow(r)) {
            return BAD;
        }
        if (none()) {
            return STATE;
        }
        int[] best = null;
        for (int[] way : ways()) {
            if ((best == null || stepsOf(way) <= stepsOf(best)) && knownBy(way) == now.rooms.size()) {
                best = way;
            }
        }
        if (best == null) {
            return NONE;
        }
        rows[r] = best;
        return stepsOf(best);
    }

    int most(int steps) {
        if (steps < 0 || steps > 18) {
            return BAD;
        }
        if (none()) {
            return STATE;
        }
        int best = -1;
        int fewest = 0;
        for (int[] way : ways()) {
            int s = stepsOf(way);
            if (s <= steps) {
                int k = knownBy(way);
                if (k > best || k == best && s < fewest) {
                    best = k;
                    fewest = s;
                }
            }
        }
        asked = fewest;
        return best;
    }

    private Map<String, Integer> partsOf(int set) {
        Map<String, Integer> parts = new HashMap<>();
        for (int d = 0; d <= 30; d++) {
            StringBuilder key = new StringBuilder();
            for (Person p : now.chosen(set)) {
                key.append(now.does(p, d) ? '+' : '-');
            }
            parts.merge(key.toString(), 1, Integer::sum);
        }
        return parts;
    }

    int parts(int set) {
        if (none()) {
            return STATE;
        }
        if (noSet(set)) {
            return BAD;
        }
        asked = java.util.Collections.max(partsOf(set).values());
        return partsOf(set).size();
    }

    int fewest() {
        if (none()) {
            return STATE;
        }
        int all = (1 << now.people.size()) - 1;
        for (int n = 0; ; n++) {
            for (int set = 0; set <= all; set++) {
                if (Integer.bitCount(set) == n && partsOf(set).size() == partsOf(all).size()) {
                    asked = set;
                    return n;
                }
            }
        }
    }

    int alike(int degree) {
        if (degree < 0 || degree > 30) {
            return BAD;
        }
        if (none()) {
            return STATE;
        }
        int set = 0;
        for (int d = 0; d <= 30; d++) {
            boolean same = true;
            for (Person p : now.people) {
                same &= now.does(p, d) == now.does(p, degree);
            }
            set |= (same ? 1 : 0) << d;
        }
        return set;
    }

    private int pairs(int r, int below) {
        if (rows[r] == null) {
            return find(1);
        }
        if (rows[r].length % 2 == 1) {
            return find(5);
        }
        for (int k = 0; k < rows[r].length; k++) {
            if (rows[r][k] < 0 || rows[r][k] >= (k % 2 == 0 ? below : 2)) {
                return find(3);
            }
        }
        return 0;
    }

    private int record(int r) {
        if (noRow(r)) {
            return BAD;
        }
        return none() ? STATE : pairs(r, now.people.size());
    }

    private TreeSet<Integer> fitting(int[] row) {
        TreeSet<Integer> set = new TreeSet<>();
        for (int d = 0; d <= 30; d++) {
            boolean so = true;
            for (int k = 0; k < row.length; k += 2) {
                so &= now.healthyDoes(now.people.get(row[k]), d) == (row[k + 1] == 1);
            }
            if (so) {
                set.add(d);
            }
        }
        return set;
    }

    int fits(int r) {
        int refused = record(r);
        if (refused != 0) {
            return refused;
        }
        asked = fitting(rows[r]).size();
        return bits(fitting(rows[r]));
    }

    int tickled(int r) {
        int refused = record(r);
        if (refused != 0) {
            return refused;
        }
        int set = 0;
        for (int k = 0; k < rows[r].length; k += 2) {
            int[] other = rows[r].clone();
            other[k + 1] = 1 - other[k + 1];
            if (!fitting(other).isEmpty()) {
                set |= 1 << other[k];
            }
        }
        return set;
    }

    private boolean agrees(Person p, int[] row) {
        boolean so = true;
        for (int k = 0; k < row.length; k += 2) {
            so &= now.healthyDoes(p, row[k]) == (row[k + 1] == 1);
        }
        return so;
    }

    int shifts(int i, int r) {
        if (noMember(i) || noRow(r)) {
            return BAD;
        }
        int refused = pairs(r, 31);
        if (refused != 0) {
            return refused;
        }
        int set = 0;
        for (int bit = 0; bit <= 10; bit++) {
            Person p = now.people.get(i).copy();
            p.shift = bit - 5;
            set |= (agrees(p, rows[r]) ? 1 : 0) << bit;
        }
        return set;
    }

    int kinds(int i, int r) {
        if (noMember(i) || noRow(r)) {
            return BAD;
        }
        int refused = pairs(r, 31);
        if (refused != 0) {
            return refused;
        }
        int set = 0;
        for (int kind = 0; kind < 6; kind++) {
            Person p = now.people.get(i).copy();
            p.letter = "ostmfa".charAt(kind);
            set |= (agrees(p, rows[r]) ? 1 : 0) << kind;
        }
        return set;
    }

    int spreads(int n) {
        if (n < 0 || n > 12) {
            return BAD;
        }
        if (none()) {
            return STATE;
        }
        State later = now.copy();
        int ever = later.sick();
        for (int h = 0; h < n; h++) {
            later.passHour();
            ever |= later.sick();
        }
        asked = ever;
        return later.sick();
    }

    int soups(int i, int n, int does) {
        if (none()) {
            return STATE;
        }
        if (noMember(i) || n < 0 || n > 8 || does != 0 && does != 1) {
            return BAD;
        }
        for (int times = 0; times <= n; times++) {
            for (int set = 0; set < 1 << n; set++) {
                if (Integer.bitCount(set) == times && so(i, n, set, does == 1)) {
                    asked = set;
                    return times;
                }
            }
        }
        return NONE;
    }

    private boolean so(int i, int n, int set, boolean does) {
        State later = now.copy();
        boolean so = true;
        for (int h = 0; h < n; h++) {
            if ((set & 1 << h) != 0) {
                later.soup = 3;
            }
            Person p = later.people.get(i);
            so &= later.healthyDoes(p, later.rooms.get(p.room)[0]) == does;
            later.passHour();
        }
        return so;
    }

    private int weigh(int r, int p, boolean mean) {
        if (noRoom(r) || p < 0 || p > 12) {
            return BAD;
        }
        List<Person> there = now.in(r);
        BigInteger sum = BigInteger.ZERO;
        for (int falsely = 0; falsely < 1 << there.size(); falsely++) {
            long degrees = 0;
            for (int d = 0; d <= 30; d++) {
                boolean so = true;
                for (int k = 0; k < there.size(); k++) {
                    boolean seems = now.doesNow(there.get(k)) ^ (falsely & 1 << k) != 0;
                    so &= now.does(there.get(k), d) == seems;
                }
                degrees += so ? 1 : 0;
            }
            int f = Integer.bitCount(falsely);
            BigInteger ways = BigInteger.valueOf(p).pow(f).multiply(BigInteger.valueOf(12 - p).pow(there.size() - f));
            sum = sum.add(ways.multiply(BigInteger.valueOf(mean ? degrees : degrees > 0 ? 1 : 0)));
        }
        BigInteger all = BigInteger.valueOf(12).pow(there.size());
        BigInteger common = sum.gcd(all);
        upper = sum.divide(common).longValue();
        lower = all.divide(common).longValue();
        return 1;
    }

    int odds(int r, int p) {
        return weigh(r, p, false);
    }

    int mid(int r, int p) {
        return weigh(r, p, true);
    }

    int lots(int n, int seed) {
        if (n < 1 || n > 20 || seed < 1 || seed == 2147483647) {
            return BAD;
        }
        if (none()) {
            return STATE;
        }
        if (past.size() + n > 40) {
            return FULL;
        }
        BigInteger lot = BigInteger.valueOf(seed);
        for (int k = 0; k < n; k++) {
            lot = lot.multiply(BigInteger.valueOf(48271)).mod(BigInteger.valueOf(2147483647));
            int v = lot.intValue();
            Person p = now.people.get(v / 8 % now.people.size());
            remember();
            if (v % 4 <= 1) {
                now.passHour();
            } else if (v % 4 == 2) {
                int to = p.room + 1 == now.rooms.size() ? 0 : p.room + 1;
                now.steps += Math.abs(to - p.room);
                p.room = to;
            } else {
                p.cold = 2;
            }
        }
        return now.steps;
    }

    int asked() {
        return asked;
    }

    long upper() {
        return upper;
    }

    long lower() {
        return lower;
    }

    int count(int what) {
        if (what < 0 || what > 10) {
            return BAD;
        }
        int doers = 0;
        int sneezers = 0;
        for (int i = 0; i < now.people.size(); i++) {
            doers |= (now.doesNow(now.people.get(i)) ? 1 : 0) << i;
            sneezers += "sf".indexOf(now.people.get(i).letter) >= 0 ? 1 : 0;
        }
        int r = 0;
        for (int[] row : rows) {
            r += row != null ? 1 : 0;
        }
        int t = 0;
        for (byte[] text : texts) {
            t += text != null ? 1 : 0;
        }
        int k = 0;
        for (State s : keptNow) {
            k += s != null ? 1 : 0;
        }
        int[] all = {now.people.size(), now.rooms.size(), now.hour, past.size(), now.steps, now.soup, doers, sneezers,
            r, t, k};
        return all[what];
    }

    int finding() {
        return finding;
    }

    int findings(int f) {
        return f < 1 || f > 5 ? BAD : findings[f];
    }

    long digest() {
        List<Long> all = new ArrayList<>();
        for (int what = 0; what <= 10; what++) {
            all.add((long) count(what));
        }
        for (int k = 0; k < 4 * now.rooms.size(); k++) {
            all.add((long) room(k / 4, k % 4));
        }
        for (int k = 0; k < 8 * now.people.size(); k++) {
            all.add((long) memberTells(k / 8, k % 8));
        }
        for (int k = 0; k < 3; k++) {
            all.add(keptNow[k] == null ? -1L : keptPast.get(k).size());
        }
        for (int[] row : rows) {
            all.add(row == null ? -1L : row.length);
            for (int k = 0; row != null && k < row.length; k++) {
                all.add((long) row[k]);
            }
        }
        for (byte[] text : texts) {
            all.add(text == null ? -1L : text.length);
            for (int k = 0; text != null && k < text.length; k++) {
                all.add((long) text[k]);
            }
        }
        long h = 17;
        for (long v : all) {
            h = 31 * h + v;
        }
        return h;
    }
}

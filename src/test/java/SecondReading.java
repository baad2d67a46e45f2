import java.util.ArrayDeque;
import java.util.ArrayList;
import java.util.HashMap;
import java.util.List;
import java.util.Map;
import java.util.TreeMap;
import java.util.TreeSet;

/**
 * The document read a second time, with objects, sets and exceptions and without regard to speed or room:
 * RandomRunsTest asks it and the program the same calls.
 */
final class SecondReading {
    static final int BAD = -1000000001, NO = -1000000002, FULL = -1000000003, NONE = -1000000005;
    static final int NOTHING = -1000000011, KIND = -1000000012, INDEX = -1000000013, SIZE = -1000000014;

    static final class Refused extends RuntimeException {
        final int answer;

        Refused(int answer) {
            super(null, null, false, false);
            this.answer = answer;
        }
    }

    static void refuseIf(boolean so, int answer) {
        if (so) {
            throw new Refused(answer);
        }
    }

    interface Call {
        int answer();
    }

    static int answered(Call call) {
        try {
            return call.answer();
        } catch (Refused refused) {
            return refused.answer;
        }
    }

    // ---- kinds

    static class One {
        TreeSet<Integer> reads(TreeSet<Integer> skin, int place, List<int[]> ways) {
            return new TreeSet<>(skin);
        }

        boolean learns() {
            return true;
        }

        int loses() {
            return 1;
        }

        int worth(int ways) {
            return ways;
        }
    }

    static class Guide extends One {
        int loses() {
            return 0;
        }

        int worth(int ways) {
            return super.worth(ways) + 5;
        }
    }

    static class Child extends One {
        TreeSet<Integer> reads(TreeSet<Integer> skin, int place, List<int[]> ways) {
            TreeSet<Integer> read = new TreeSet<>();
            for (int way : skin) {
                if (ways.get(way)[0] == place || ways.get(way)[1] == place) {
                    read.add(way);
                }
            }
            return read;
        }

        boolean learns() {
            return false;
        }

        int worth(int ways) {
            return 40 - super.worth(ways);
        }
    }

    static class Elder extends Guide {
        TreeSet<Integer> reads(TreeSet<Integer> skin, int place, List<int[]> ways) {
            TreeSet<Integer> read = super.reads(skin, place, ways);
            read.removeIf(way -> way % 3 == 0);
            return read;
        }

        int loses() {
            return super.loses() + 2;
        }

        int worth(int ways) {
            return 2 * super.worth(ways);
        }
    }

    static class Twin extends Child {
        TreeSet<Integer> reads(TreeSet<Integer> skin, int place, List<int[]> ways) {
            TreeSet<Integer> read = super.reads(skin, place, ways);
            for (int way : skin) {
                if (way % 2 == 1) {
                    read.add(way);
                }
            }
            return read;
        }

        int worth(int ways) {
            return super.worth(ways) - 4;
        }
    }

    static class Forger extends One {
        TreeSet<Integer> reads(TreeSet<Integer> skin, int place, List<int[]> ways) {
            TreeSet<Integer> read = new TreeSet<>();
            for (int way = 1; way < ways.size(); way += 2) {
                if (ways.get(way)[0] == place || ways.get(way)[1] == place) {
                    read.add(way);
                }
            }
            return read;
        }

        int worth(int ways) {
            return 3;
        }
    }

    static final One[] KINDS = {new One(), new Guide(), new Child(), new Elder(), new Twin(), new Forger()};

    static boolean under(int kind, int top) {
        return KINDS[top].getClass().isInstance(KINDS[kind]);
    }

    // ---- the land

    static final class Person {
        int kind;
        int place;
        int age;
        TreeSet<Integer> skin = new TreeSet<>();

        Person copy() {
            Person other = new Person();
            other.kind = kind;
            other.place = place;
            other.age = age;
            other.skin = new TreeSet<>(skin);
            return other;
        }

        One does() {
            return KINDS[kind];
        }

        int worth() {
            return does().worth(skin.size());
        }
    }

    static final class Text {
        int key;
        int operands;
        Expression expression;
    }

    interface Expression {
        int value(Map<Character, Integer> names);
    }

    static final class World {
        List<Person> people = new ArrayList<>();
        List<int[]> ways = new ArrayList<>();
        List<Boolean> stands = new ArrayList<>();
        List<Text> texts = new ArrayList<>();
        int wanders = 60, slips = 10, walked = 0, inked = 0, faded = 0, day = 0, z = 1;

        World copy() {
            World other = new World();
            for (Person person : people) {
                other.people.add(person.copy());
            }
            other.ways.addAll(ways);
            other.stands.addAll(stands);
            other.texts.addAll(texts);
            other.wanders = wanders;
            other.slips = slips;
            other.walked = walked;
            other.inked = inked;
            other.faded = faded;
            other.day = day;
            other.z = z;
            return other;
        }

        World behind(int n) {
            World other = copy();
            for (int i = 0; i < n; i++) {
                other.day();
            }
            return other;
        }

        int draw() {
            z = (int) ((long) z * 1103515245L + 12345L);
            return (int) ((z & 0xFFFFFFFFL) / 256);
        }

        TreeSet<Integer> reads(Person person, int place) {
            return person.does().reads(person.skin, place, ways);
        }

        int why(int key) {
            for (int text = texts.size() - 1; text >= 0; text--) {
                if (texts.get(text).key == key) {
                    return text;
                }
            }
            return NONE;
        }

        int gives(int key, int without, Map<Character, Integer> names) {
            int text = why(key);
            return text == NONE ? without : texts.get(text).expression.value(names);
        }

        int urge(Person person) {
            int gives = gives(0, wanders, Map.of('w', wanders, 'a', person.age, 'o', person.place));
            return why(0) == NONE ? wanders : gives < 0 ? 0 : gives > 100 ? 100 : gives;
        }

        boolean goes(int way, Person person) {
            int[] ends = ways.get(way);
            if (ends[0] != person.place && ends[1] != person.place || !stands.get(way)) {
                return false;
            }
            for (Person other : people) {
                if (other.place == person.place && reads(other, person.place).contains(way)) {
                    return true;
                }
            }
            return false;
        }

        void day() {
            for (Person person : people) {
                if (draw() % 100 < urge(person) && !ways.isEmpty()) {
                    int way = draw() % ways.size();
                    if (goes(way, person)) {
                        int[] ends = ways.get(way);
                        person.place = ends[0] + ends[1] - person.place;
                        walked++;
                        if (person.does().learns() && person.skin.add(way)) {
                            inked++;
                        }
                    }
                }
            }
            for (Person person : people) {
                person.age = person.age == 99 ? 99 : person.age + 1;
                for (int i = 0; person.age % 10 == 0 && i < person.does().loses(); i++) {
                    if (person.skin.pollFirst() != null) {
                        faded++;
                    }
                }
            }
            if (draw() % 100 < slips && !ways.isEmpty()) {
                int way = draw() % ways.size();
                stands.set(way, !stands.get(way));
            }
            day++;
        }

        TreeSet<Integer> skins(Iterable<Person> some) {
            TreeSet<Integer> all = new TreeSet<>();
            for (Person person : some) {
                all.addAll(person.skin);
            }
            return all;
        }

        List<Person> some(int set) {
            List<Person> some = new ArrayList<>();
            for (int i = 0; i < people.size(); i++) {
                if ((set & 1 << i) != 0) {
                    some.add(people.get(i));
                }
            }
            return some;
        }

        Map<Integer, Integer> distances(List<Person> some, int from) {
            Map<Integer, Integer> distances = new TreeMap<>();
            ArrayDeque<Integer> open = new ArrayDeque<>();
            distances.put(from, 0);
            open.add(from);
            while (!open.isEmpty()) {
                int place = open.poll();
                for (Person person : some) {
                    for (int way : reads(person, place)) {
                        int[] ends = ways.get(way);
                        if (stands.get(way) && (ends[0] == place || ends[1] == place)) {
                            int other = ends[0] + ends[1] - place;
                            if (!distances.containsKey(other)) {
                                distances.put(other, distances.get(place) + 1);
                                open.add(other);
                            }
                        }
                    }
                }
            }
            return distances;
        }
    }

    // ---- texts

    static final class Fault extends RuntimeException {
        final int place;

        Fault(int place) {
            super(null, null, false, false);
            this.place = place;
        }
    }

    static final class Parser {
        final List<String> words = new ArrayList<>();
        final List<Integer> places = new ArrayList<>();
        final List<Boolean> glued = new ArrayList<>();
        final int length;
        int next = 0;
        int operands = 0;
        String names = "";

        Parser(String tape) {
            length = tape.length();
            int at = 0;
            while (at < length) {
                String kind = kind(tape.charAt(at));
                int end = at + 1;
                while (!kind.equals("sign") && !kind.equals("blank") && end < length && kind(tape.charAt(end)).equals(kind)) {
                    end++;
                }
                if (!kind.equals("blank")) {
                    boolean behindWord = at > 0 && isWord(tape.charAt(at - 1)) && isWord(tape.charAt(at));
                    words.add(tape.substring(at, end));
                    places.add(at);
                    glued.add(behindWord);
                }
                at = end;
            }
        }

        static boolean isWord(char sign) {
            return kind(sign).equals("letters") || kind(sign).equals("digits");
        }

        static String kind(char sign) {
            if (sign >= 'a' && sign <= 'z') {
                return "letters";
            }
            if (sign >= '0' && sign <= '9') {
                return "digits";
            }
            return sign == ' ' ? "blank" : "sign";
        }

        String look() {
            return next < words.size() && !glued.get(next) ? words.get(next) : "";
        }

        Fault fault() {
            return new Fault(next < words.size() ? places.get(next) : length);
        }

        Text text() {
            Text text = new Text();
            text.key = List.of("urge", "fee", "fine").indexOf(look());
            if (text.key < 0) {
                throw fault();
            }
            names = List.of("wao", "ki", "sp").get(text.key);
            next++;
            text.expression = or(0, 0);
            if (next < words.size()) {
                throw fault();
            }
            text.operands = operands;
            return text;
        }

        Expression or(int parens, int nots) {
            Expression left = and(parens, nots);
            while (look().equals("|")) {
                next++;
                Expression first = left;
                Expression second = and(parens, nots);
                left = names -> first.value(names) != 0 | second.value(names) != 0 ? 1 : 0;
            }
            return left;
        }

        Expression and(int parens, int nots) {
            Expression left = test(parens, nots);
            while (look().equals("&")) {
                next++;
                Expression first = left;
                Expression second = test(parens, nots);
                left = names -> first.value(names) != 0 & second.value(names) != 0 ? 1 : 0;
            }
            return left;
        }

        Expression test(int parens, int nots) {
            Expression first = sum(parens, nots);
            String sign = look();
            if (!sign.equals("<") && !sign.equals("=") && !sign.equals(">")) {
                return first;
            }
            next++;
            Expression second = sum(parens, nots);
            return names -> {
                int order = Integer.compare(first.value(names), second.value(names));
                return order < 0 && sign.equals("<") || order == 0 && sign.equals("=") || order > 0 && sign.equals(">") ? 1 : 0;
            };
        }

        Expression sum(int parens, int nots) {
            Expression left = term(parens, nots);
            while (look().equals("+") || look().equals("-")) {
                boolean plus = look().equals("+");
                next++;
                Expression first = left;
                Expression second = term(parens, nots);
                left = names -> (int) (plus ? (long) first.value(names) + second.value(names)
                    : (long) first.value(names) - second.value(names));
            }
            return left;
        }

        Expression term(int parens, int nots) {
            Expression left = piece(parens, nots);
            while (look().equals("*") || look().equals("/")) {
                boolean times = look().equals("*");
                next++;
                Expression first = left;
                Expression second = piece(parens, nots);
                left = names -> {
                    long a = first.value(names);
                    long b = second.value(names);
                    return (int) (times ? a * b : b == 0 ? 0 : a / b);
                };
            }
            return left;
        }

        Expression piece(int parens, int nots) {
            String word = look();
            if (word.matches("[0-9]{1,4}")) {
                next++;
                operands++;
                int number = Integer.parseInt(word);
                return values -> number;
            }
            if (word.length() == 1 && names.contains(word)) {
                next++;
                operands++;
                return values -> values.get(word.charAt(0));
            }
            if (word.equals("!") && nots < 8) {
                next++;
                Expression piece = piece(parens, nots + 1);
                return values -> piece.value(values) == 0 ? 1 : 0;
            }
            if (word.equals("(") && parens < 8) {
                next++;
                Expression within = or(parens + 1, nots);
                if (!look().equals(")")) {
                    throw fault();
                }
                next++;
                return within;
            }
            throw fault();
        }
    }

    // ---- what the object holds

    World now = new World();
    World image = null;
    final StringBuilder tape = new StringBuilder();
    final List<Integer> waiting = new ArrayList<>();
    /** A SHEET's places; null in a place of floats is NO NUMBER. */
    final Map<Integer, Integer[]> sheets = new HashMap<>();
    final Map<Integer, Integer> sorts = new HashMap<>();
    final Map<Integer, Object> slots = new HashMap<>();

    static boolean within(int v, int least, int most) {
        return v >= least && v <= most;
    }

    Person person(int one) {
        refuseIf(!within(one, 0, now.people.size() - 1), BAD);
        return now.people.get(one);
    }

    void wantWay(int way) {
        refuseIf(!within(way, 0, now.ways.size() - 1), BAD);
    }

    static void want(int v, int least, int most) {
        refuseIf(!within(v, least, most), BAD);
    }

    static int bits(Iterable<Integer> numbers) {
        int bits = 0;
        for (int number : numbers) {
            bits |= 1 << number;
        }
        return bits;
    }

    int one(int kind, int place, int age) {
        want(kind, 0, 5);
        want(place, 0, 9);
        want(age, 0, 99);
        refuseIf(now.people.size() == 8, FULL);
        Person person = new Person();
        person.kind = kind;
        person.place = place;
        person.age = age;
        now.people.add(person);
        return now.people.size() - 1;
    }

    int way(int from, int to) {
        want(from, 0, 9);
        want(to, 0, 9);
        refuseIf(from == to, BAD);
        refuseIf(now.ways.size() == 14, FULL);
        now.ways.add(new int[] {from, to});
        now.stands.add(true);
        return now.ways.size() - 1;
    }

    int told(int one, int what) {
        Person person = person(one);
        want(what, 0, 6);
        int reads = bits(now.reads(person, person.place));
        return new int[] {person.kind, person.place, person.age, bits(person.skin), reads, now.urge(person), person.worth()}[what];
    }

    int as(int one, int kind) {
        Person person = person(one);
        want(kind, 0, 5);
        refuseIf(!under(person.kind, kind), KIND);
        return person.place;
    }

    int turns(int one, int kind) {
        Person person = person(one);
        want(kind, 0, 5);
        int was = person.kind;
        person.kind = kind;
        return was;
    }

    int set(int one, int what, int v) {
        Person person = person(one);
        want(what, 1, 2);
        want(v, 0, what == 1 ? 9 : 99);
        int was = what == 1 ? person.place : person.age;
        if (what == 1) {
            person.place = v;
        } else {
            person.age = v;
        }
        return was;
    }

    int ink(int one, int way) {
        Person person = person(one);
        wantWay(way);
        refuseIf(!person.skin.add(way), NO);
        return person.skin.size();
    }

    int scar(int one, int way) {
        Person person = person(one);
        wantWay(way);
        refuseIf(!person.skin.remove(way), NO);
        return person.skin.size();
    }

    int about(int way, int what) {
        wantWay(way);
        want(what, 0, 3);
        if (what < 2) {
            return now.ways.get(way)[what];
        }
        if (what == 2) {
            return now.stands.get(way) ? 1 : 0;
        }
        int bearers = 0;
        for (int i = 0; i < now.people.size(); i++) {
            bearers += now.people.get(i).skin.contains(way) ? 1 << i : 0;
        }
        return bearers;
    }

    int slides(int way) {
        wantWay(way);
        boolean did = now.stands.get(way);
        now.stands.set(way, !did);
        return did ? 1 : 0;
    }

    int at(int place) {
        want(place, 0, 9);
        int those = 0;
        for (int i = 0; i < now.people.size(); i++) {
            those += now.people.get(i).place == place ? 1 << i : 0;
        }
        return those;
    }

    int rule(int what, int v) {
        want(what, 0, 1);
        want(v, 0, 100);
        int was = what == 0 ? now.wanders : now.slips;
        if (what == 0) {
            now.wanders = v;
        } else {
            now.slips = v;
        }
        return was;
    }

    int deal(int n) {
        want(n, 1, 8);
        int came = 0;
        while (came < n && now.people.size() < 8) {
            Person person = new Person();
            person.kind = now.draw() % 6;
            person.place = now.draw() % 10;
            person.age = now.draw() % 80;
            int skin = now.draw();
            for (int way = 0; way < now.ways.size(); way++) {
                if ((skin >> way) % 2 == 1) {
                    person.skin.add(way);
                }
            }
            now.people.add(person);
            came++;
        }
        return came;
    }

    int seed(int v) {
        int was = now.z;
        now.z = v;
        return was;
    }

    int days(int n) {
        want(n, 1, 100);
        int before = now.walked;
        for (int i = 0; i < n && now.day < 9999; i++) {
            now.day();
        }
        return now.walked - before;
    }

    int land(int what) {
        want(what, 0, 5);
        TreeSet<Integer> stand = new TreeSet<>();
        TreeSet<Integer> unknown = new TreeSet<>();
        TreeSet<Integer> known = now.skins(now.people);
        for (int way = 0; way < now.ways.size(); way++) {
            if (now.stands.get(way)) {
                stand.add(way);
            }
            if (!known.contains(way)) {
                unknown.add(way);
            }
        }
        return new int[] {now.walked, now.inked, now.faded, known.size(), bits(stand), bits(unknown)}[what];
    }

    int journey(int people, int from, int to) {
        want(people, 0, (1 << now.people.size()) - 1);
        want(from, 0, 9);
        want(to, 0, 9);
        return now.distances(now.some(people), from).getOrDefault(to, NONE);
    }

    int reach(int one) {
        Person person = person(one);
        return bits(now.distances(List.of(person), person.place).keySet());
    }

    int company(int from, int to, int what) {
        want(from, 0, 9);
        want(to, 0, 9);
        want(what, 0, 1);
        int there = at(from);
        for (int many = 0; many <= 8; many++) {
            for (int set = 0; set < 256; set++) {
                boolean are = (set & there) == set && Integer.bitCount(set) == many;
                if (are && now.distances(now.some(set), from).containsKey(to)) {
                    return what == 0 ? set : many;
                }
            }
        }
        return NONE;
    }

    int regiment(int what) {
        want(what, 0, 1);
        TreeSet<Integer> all = now.skins(now.people);
        for (int many = 0; many <= 8; many++) {
            for (int set = 0; set < 1 << now.people.size(); set++) {
                if (Integer.bitCount(set) == many && now.skins(now.some(set)).equals(all)) {
                    return what == 0 ? set : many;
                }
            }
        }
        throw new IllegalStateException();
    }

    int dear(int what) {
        want(what, 0, 1);
        refuseIf(now.people.isEmpty(), NONE);
        int best = -1;
        int most = -1;
        for (int i = 0; i < now.people.size(); i++) {
            List<Person> others = new ArrayList<>(now.people);
            others.remove(i);
            TreeSet<Integer> own = new TreeSet<>(now.people.get(i).skin);
            own.removeAll(now.skins(others));
            if (own.size() > most) {
                best = i;
                most = own.size();
            }
        }
        return what == 0 ? best : most;
    }

    int behind(int n, int what) {
        want(n, 0, 100);
        want(what, 0, 3 + now.people.size());
        World then = now.behind(n);
        if (what >= 4) {
            return then.people.get(what - 4).place;
        }
        return new int[] {then.walked, then.inked, then.faded, then.skins(then.people).size()}[what];
    }

    int arrives(int one, int place) {
        person(one);
        want(place, 0, 9);
        World then = now.copy();
        for (int n = 0; n <= 200; n++) {
            if (then.people.get(one).place == place) {
                return n;
            }
            then.day();
        }
        return NONE;
    }

    int inks(int one, int n, int what) {
        person(one);
        want(n, 1, 60);
        want(what, 0, 1);
        refuseIf(now.ways.isEmpty(), NONE);
        int[] walked = new int[now.ways.size()];
        int best = 0;
        for (int way = 0; way < walked.length; way++) {
            World then = now.copy();
            then.people.get(one).skin.add(way);
            walked[way] = then.behind(n).walked;
            best = walked[way] > walked[best] ? way : best;
        }
        return what == 0 ? best : walked[best];
    }

    int becomes(int one, int n, int what) {
        person(one);
        want(n, 1, 60);
        want(what, 0, 1);
        int[] known = new int[6];
        int best = 0;
        for (int kind = 0; kind < 6; kind++) {
            World then = now.copy();
            then.people.get(one).kind = kind;
            then = then.behind(n);
            known[kind] = then.skins(then.people).size();
            best = known[kind] > known[best] ? kind : best;
        }
        return what == 0 ? best : known[best];
    }

    Integer[] row(int sheet) {
        refuseIf(!sheets.containsKey(sheet), NOTHING);
        return sheets.get(sheet);
    }

    int like(int sheet, int what) {
        want(sheet, 0, 3);
        want(what, 0, 1);
        Integer[] row = row(sheet);
        refuseIf(now.people.isEmpty(), NONE);
        int[] alike = new int[now.people.size()];
        int best = 0;
        for (int one = 0; one < alike.length; one++) {
            for (int k = 0; k < row.length; k++) {
                if (row[k] != null && now.behind(k).people.get(one).place == row[k]) {
                    alike[one]++;
                }
            }
            best = alike[one] > alike[best] ? one : best;
        }
        return what == 0 ? best : alike[best];
    }

    int fee() {
        return now.gives(1, now.walked, Map.of('k', now.walked, 'i', now.inked));
    }

    int fine(int one) {
        Person person = person(one);
        return now.gives(2, person.skin.size(), Map.of('s', person.skin.size(), 'p', person.place));
    }

    int feed(int a, int b, int c) {
        refuseIf(tape.length() > 84, FULL);
        for (int four : new int[] {a, b, c}) {
            long unsigned = four & 0xFFFFFFFFL;
            tape.append((char) (unsigned / 16777216)).append((char) (unsigned / 65536 % 256));
            tape.append((char) (unsigned / 256 % 256)).append((char) (unsigned % 256));
        }
        return tape.length();
    }

    int trim(int n) {
        want(n, 0, tape.length());
        tape.setLength(n);
        return n;
    }

    int text() {
        String signs = tape.toString();
        tape.setLength(0);
        try {
            Text text = new Parser(signs).text();
            refuseIf(now.texts.size() == 14, FULL);
            now.texts.add(text);
            return now.texts.size() - 1;
        } catch (Fault fault) {
            return -100 - fault.place;
        }
    }

    int textTold(int text, int what) {
        want(text, 0, now.texts.size() - 1);
        want(what, 0, 1);
        return what == 0 ? now.texts.get(text).key : now.texts.get(text).operands;
    }

    int why(int key) {
        want(key, 0, 2);
        return now.why(key);
    }

    int sheet(int sheet, int sort, int n) {
        want(sheet, 0, 3);
        want(sort, -1, 1);
        if (sort == -1) {
            sheets.remove(sheet);
            return 0;
        }
        refuseIf(n > 24, BAD);
        refuseIf(n < 0, SIZE);
        Integer[] row = new Integer[n];
        java.util.Arrays.fill(row, 0);
        sheets.put(sheet, row);
        sorts.put(sheet, sort);
        return n;
    }

    int mark(int sheet, int place, int v) {
        want(sheet, 0, 3);
        Integer[] row = row(sheet);
        refuseIf(!within(place, 0, row.length - 1), INDEX);
        if (sorts.get(sheet) == 0) {
            refuseIf(v == NONE, KIND);
            int low = Math.floorMod(v, 65536);
            row[place] = low < 32768 ? low : low - 65536;
        } else if (v == NONE) {
            row[place] = null;
        } else {
            want(v, -99999, 99999);
            row[place] = v;
        }
        return 1;
    }

    int pour(int sheet) {
        want(sheet, 0, 3);
        Integer[] row = row(sheet);
        int otherwise = 0;
        for (int i = 0; i < row.length && i < now.people.size(); i++) {
            if (row[i] != null) {
                int age = row[i] < 0 ? 0 : row[i] > 99 ? 99 : row[i];
                if (age != now.people.get(i).age) {
                    otherwise++;
                }
                now.people.get(i).age = age;
            }
        }
        return otherwise;
    }

    int reads(int sheet) {
        want(sheet, 0, 3);
        Integer[] row = row(sheet);
        for (int i = 0; i < row.length; i++) {
            if (row[i] != null && (i >= now.people.size() || row[i] != now.people.get(i).skin.size())) {
                return i;
            }
        }
        return NONE;
    }

    int copy(int from, int place, int to, int at, int many) {
        want(from, 0, 3);
        want(to, 0, 3);
        Integer[] source = row(from).clone();
        Integer[] goal = row(to);
        refuseIf(!sorts.get(from).equals(sorts.get(to)), KIND);
        refuseIf(place < 0 || at < 0 || many < 0, INDEX);
        refuseIf((long) place + many > source.length || (long) at + many > goal.length, INDEX);
        for (int i = 0; i < many; i++) {
            goal[at + i] = source[place + i];
        }
        return many;
    }

    static int held(Object thing) {
        return thing == null ? 0 : thing instanceof Person ? 1 : thing instanceof Integer[] ? 2 : 3;
    }

    int lay(int slot, int thing, int k) {
        want(slot, 0, 4);
        want(thing, 0, 3);
        int was = held(slots.get(slot));
        if (thing == 1) {
            slots.put(slot, person(k).copy());
        } else if (thing == 2) {
            want(k, 0, 3);
            slots.put(slot, row(k).clone());
        } else {
            slots.put(slot, thing == 0 ? null : (Object) k);
        }
        return was;
    }

    Object thing(int slot, int held) {
        refuseIf(slots.get(slot) == null, NOTHING);
        refuseIf(held(slots.get(slot)) != held, KIND);
        return slots.get(slot);
    }

    int ask(int slot, int kind) {
        want(slot, 0, 4);
        want(kind, 0, 5);
        Person person = (Person) thing(slot, 1);
        refuseIf(!under(person.kind, kind), KIND);
        return person.worth();
    }

    int item(int slot, int place) {
        want(slot, 0, 4);
        Integer[] row = (Integer[]) thing(slot, 2);
        refuseIf(!within(place, 0, row.length - 1), INDEX);
        refuseIf(row[place] == null, KIND);
        return row[place];
    }

    int rest(int slot, int n) {
        want(slot, 0, 4);
        long number = (Integer) thing(slot, 3);
        refuseIf(n == 0, NO);
        return (int) (number - number / n * n);
    }

    int tell(int v) {
        refuseIf(waiting.size() == 60, FULL);
        waiting.add(v);
        return waiting.size();
    }

    int check(int n) {
        List<Integer> told = new ArrayList<>(waiting);
        waiting.clear();
        want(n, 1, 30);
        refuseIf(image == null, NO);
        List<Integer> due = new ArrayList<>();
        World then = image.copy();
        for (int i = 0; i < n && then.day < 9999; i++) {
            then.day();
            due.add(then.walked);
            due.add(then.skins(then.people).size());
        }
        int right = 0;
        while (right < told.size() && right < due.size() && told.get(right).equals(due.get(right))) {
            right++;
        }
        return right == told.size() && right == due.size() ? 0 : 1 + right;
    }

    int keep() {
        image = now.copy();
        return now.people.size();
    }

    int back() {
        refuseIf(image == null, NO);
        now = image.copy();
        return now.people.size();
    }

    int count(int what) {
        want(what, 0, 8);
        return new int[] {now.people.size(), now.day, now.ways.size(), now.wanders, now.slips, now.texts.size(),
            waiting.size(), tape.length(), now.z}[what];
    }
}

import java.util.ArrayList;
import java.util.Arrays;
import java.util.List;
import java.util.Random;

/**
 * Long runs of calls by seeds, each answered by the class and by a model that is told from the document a second
 * time, in the most costly way: it copies mornings, makes all ways in and all plays, and remembers nothing.
 */
public final class ModelTest {
    private static final int RUNS = 1500, CALLS = 512;
    private static final int[] WILD = {Integer.MIN_VALUE, Integer.MIN_VALUE + 1, -100, 41, 1 << 16, 1 << 29, 1 << 30,
        Integer.MAX_VALUE - 3, Integer.MAX_VALUE};
    private static int wrong = 0;
    private static long asked = 0;

    public static void main(String[] args) {
        int runs = args.length > 0 ? Integer.parseInt(args[0]) : RUNS;
        for (int run = 0; run < runs && wrong < 10; run++) run(run);
        System.out.println(asked + " answers asked, " + wrong + " not as the model's");
        if (wrong != 0) System.exit(1);
    }

    // ---- the runs

    private static void run(int seed) {
        Random random = new Random(seed);
        OpensAtNine x = new OpensAtNine();
        Model m = new Model();
        List<String> told = new ArrayList<>();
        String[] calls = {"set", "come", "stand", "count", "tape", "feed", "text", "force", "asks", "coin", "coin", "sell",
            "told", "put", "worth", "gang", "spare", "reach", "keys", "gifts", "rest", "moves", "play", "which", "next",
            "judge", "laws", "numbers", "film", "drawn", "mean", "image", "back", "sheet", "cell", "cells", "copy",
            "coinsBy", "purse", "like", "taken", "dear"};
        int most = seed % 4 == 3 ? 1 : 4;
        int called = 0;
        while (called < CALLS) {
            String call = called < 12 && random.nextInt(3) != 0
                ? called < 5 ? "come" : "coin" : calls[random.nextInt(calls.length)];
            if (call.equals("come") && m.now.people >= most && random.nextInt(3) != 0) continue;
            if ((call.equals("put") || call.equals("play") || call.equals("image")) && random.nextInt(3) != 0) continue;
            if (call.equals("dear") && random.nextInt(6) != 0) continue;
            called += Math.max(1, one(call, random, x, m, told));
            if (wrong >= 10) return;
        }
    }

    private static int at(Random random, int least, int most) {
        int k = random.nextInt(40);
        if (k == 0) return least - 1;
        if (k == 1) return most + 1;
        if (k == 2) return least;
        if (k == 3) return most;
        if (k == 4) return random.nextInt(4) == 0 ? WILD[random.nextInt(WILD.length)] : least;
        return least + random.nextInt(most - least + 1);
    }

    private static int one(String call, Random random, OpensAtNine x, Model m, List<String> told) {
        int many = 1;
        switch (call) {
            case "tape": return tape(random, x, m, told);
            case "cells": return cells(random, x, m, told);
            case "purse": return purse(random, x, m, told);
            case "like": return like(random, x, m, told);
            case "dear":
                for (int steps : new int[] {6, 5}) {
                    due(told, "moves(" + steps + ")", x.moves(steps), m.moves(steps));
                    due(told, "rest(0, " + steps + ")", x.rest(0, steps), m.rest(0, steps));
                }
                return 4;
            default:
        }
        int a, b, c, d, e, f;
        switch (call) {
            case "set":
                a = at(random, 0, 2);
                b = a == 0 ? at(random, 2, 20) : a == 1 ? random.nextBoolean() ? at(random, 0, 9999) : at(random, 0, 40)
                    : at(random, 0, 99);
                due(told, "set(" + a + ", " + b + ")", x.set(a, b), m.set(a, b));
                break;
            case "come": due(told, "come()", x.come(), m.come()); break;
            case "stand":
                a = at(random, 0, 3);
                b = random.nextInt(3) == 0 ? at(random, 0, 1) : 0;
                due(told, "stand(" + a + ", " + b + ")", x.stand(a, b), m.stand(a, b));
                break;
            case "count": a = at(random, 0, 8); due(told, "count(" + a + ")", x.count(a), m.count(a)); break;
            case "feed":
                a = at(random, 1, 5); b = at(random, 0, 255); c = at(random, 0, 255); d = at(random, 0, 255);
                e = at(random, 0, 255); f = at(random, 0, 255);
                if (random.nextInt(3) != 0) break;
                due(told, "feed(" + a + ", " + b + ", " + c + ", " + d + ", " + e + ", " + f + ")",
                    x.feed(a, b, c, d, e, f), m.feed(a, b, c, d, e, f));
                break;
            case "text": due(told, "text()", x.text(), m.text()); break;
            case "force": a = at(random, 0, 3); due(told, "force(" + a + ")", x.force(a), m.force(a)); break;
            case "asks":
                a = at(random, 0, 2); b = at(random, 0, 9999); c = at(random, 0, 999); d = at(random, 0, 99);
                e = at(random, 0, 99);
                due(told, "asks(" + a + ", " + b + ", " + c + ", " + d + ", " + e + ")", x.asks(a, b, c, d, e),
                    m.asks(a, b, c, d, e));
                break;
            case "coin":
                a = at(random, 0, Math.max(0, m.now.people - 1)); b = at(random, 0, 5);
                c = random.nextInt(4) == 0 ? at(random, 0, 30) : at(random, 0, 9); d = at(random, 0, 9);
                due(told, "coin(" + a + ", " + b + ", " + c + ", " + d + ")", x.coin(a, b, c, d), m.coin(a, b, c, d));
                break;
            case "sell":
                a = at(random, 0, 6); b = at(random, 0, 3);
                due(told, "sell(" + a + ", " + b + ")", x.sell(a, b), m.sell(a, b));
                break;
            case "told":
                a = at(random, 0, 6); b = at(random, 0, 6);
                due(told, "told(" + a + ", " + b + ")", x.told(a, b), m.told(a, b));
                break;
            case "put": a = at(random, 0, 6); due(told, "put(" + a + ")", x.put(a), m.put(a)); break;
            case "worth": a = at(random, 0, 3); due(told, "worth(" + a + ")", x.worth(a), m.worth(a)); break;
            case "gang":
                a = at(random, 1, 15); b = at(random, 0, 2);
                if (random.nextBoolean()) a &= (1 << m.now.people) - 1;
                due(told, "gang(" + a + ", " + b + ")", x.gang(a, b), m.gang(a, b));
                break;
            case "spare":
                a = at(random, 0, 3); b = at(random, 0, 3);
                due(told, "spare(" + a + ", " + b + ")", x.spare(a, b), m.spare(a, b));
                break;
            case "reach": a = at(random, 0, 3); due(told, "reach(" + a + ")", x.reach(a), m.reach(a)); break;
            case "keys": due(told, "keys()", x.keys(), m.keys()); break;
            case "gifts": due(told, "gifts()", x.gifts(), m.gifts()); break;
            case "rest":
                a = at(random, 0, 3); b = at(random, 0, 4);
                due(told, "rest(" + a + ", " + b + ")", x.rest(a, b), m.rest(a, b));
                break;
            case "moves": a = at(random, 0, 4); due(told, "moves(" + a + ")", x.moves(a), m.moves(a)); break;
            case "play": a = at(random, 0, 3); due(told, "play(" + a + ")", x.play(a), m.play(a)); break;
            case "which":
                a = at(random, 0, 3); b = at(random, 0, 9999);
                due(told, "which(" + a + ", " + b + ")", x.which(a, b), m.which(a, b));
                break;
            case "next":
                a = at(random, 0, 3); b = at(random, 0, 9999); c = at(random, 0, 1);
                due(told, "next(" + a + ", " + b + ", " + c + ")", x.next(a, b, c), m.next(a, b, c));
                break;
            case "judge": a = at(random, 0, 3); due(told, "judge(" + a + ")", x.judge(a), m.judge(a)); break;
            case "laws": a = at(random, 0, 3); due(told, "laws(" + a + ")", x.laws(a), m.laws(a)); break;
            case "numbers": a = at(random, 0, 3); due(told, "numbers(" + a + ")", x.numbers(a), m.numbers(a)); break;
            case "film":
                a = at(random, 0, 3);
                due(told, "film(" + a + ")", x.film(a), m.film(a));
                due(told, "judge(" + a + ")", x.judge(a), m.judge(a));
                due(told, "laws(" + a + ")", x.laws(a), m.laws(a));
                due(told, "numbers(" + a + ")", x.numbers(a), m.numbers(a));
                return 4;
            case "drawn": a = at(random, 0, 99999); due(told, "drawn(" + a + ")", x.drawn(a), m.drawn(a)); break;
            case "mean":
                a = at(random, 0, 99999); b = at(random, 1, 40); c = at(random, 0, 1);
                due(told, "mean(" + a + ", " + b + ", " + c + ")", x.mean(a, b, c), m.mean(a, b, c));
                break;
            case "image": due(told, "image()", x.image(), m.image()); break;
            case "back": due(told, "back()", x.back(), m.back()); break;
            case "sheet":
                a = at(random, 0, 3); b = at(random, -1, 2);
                c = random.nextInt(4) == 0 ? at(random, 0, 40) : 2 * random.nextInt(5);
                due(told, "sheet(" + a + ", " + b + ", " + c + ")", x.sheet(a, b, c), m.sheet(a, b, c));
                break;
            case "cell":
                a = at(random, 0, 3); b = at(random, 0, 9); c = random.nextBoolean() ? random.nextInt(8) : random.nextInt();
                due(told, "cell(" + a + ", " + b + ", " + c + ")", x.cell(a, b, c), m.cell(a, b, c));
                break;
            case "copy":
                a = at(random, 0, 3); b = at(random, 0, 9); c = at(random, 0, 3); d = at(random, 0, 9); e = at(random, 0, 9);
                due(told, "copy(" + a + ", " + b + ", " + c + ", " + d + ", " + e + ")", x.copy(a, b, c, d, e),
                    m.copy(a, b, c, d, e));
                break;
            case "coinsBy":
                a = at(random, 0, 3); b = at(random, 0, 2); c = at(random, 0, 9); d = at(random, 0, 7);
                if (random.nextBoolean() && a >= 0 && a < 4 && m.sheets[a] != null) b = m.sorts[a];
                due(told, "coinsBy(" + a + ", " + b + ", " + c + ", " + d + ")", x.coinsBy(a, b, c, d),
                    m.coinsBy(a, b, c, d));
                break;
            case "taken":
                a = at(random, 0, 10); b = at(random, 0, 6);
                due(told, "taken(" + a + ", " + b + ")", x.taken(a, b), m.taken(a, b));
                break;
            default: throw new IllegalStateException(call);
        }
        return many;
    }

    /** A tape of a text, often whole, at times with a place or two changed, and a law of it. */
    private static int tape(Random random, OpensAtNine x, Model m, List<String> told) {
        StringBuilder bytes = new StringBuilder();
        String[] words = {"opens ", "worth ", "haste "};
        for (int part = 0; part < 3; part++) {
            bytes.append(words[part]).append(expression(random, random.nextInt(7))).append(random.nextBoolean() ? ";" : " ; ");
        }
        int spoilt = random.nextInt(3);
        for (int k = 0; k < spoilt; k++) {
            int i = random.nextInt(bytes.length());
            String other = " ;()<=+-*019azosum\n#";
            int how = random.nextInt(3);
            if (how == 0) bytes.setCharAt(i, other.charAt(random.nextInt(other.length())));
            else if (how == 1) bytes.deleteCharAt(i);
            else bytes.insert(i, other.charAt(random.nextInt(other.length())));
        }
        int called = 0;
        for (int i = 0; i < bytes.length(); i += 5) {
            int[] five = new int[5];
            int n = Math.min(5, bytes.length() - i);
            for (int k = 0; k < n; k++) five[k] = bytes.charAt(i + k);
            due(told, "feed(" + n + ", " + Arrays.toString(five) + ")", x.feed(n, five[0], five[1], five[2], five[3], five[4]),
                m.feed(n, five[0], five[1], five[2], five[3], five[4]));
            called++;
        }
        int t = m.text();
        due(told, "text() of " + bytes, x.text(), t);
        if (t > 0) due(told, "force(" + t + ")", x.force(t), m.force(t));
        return called + 2;
    }

    private static String expression(Random random, int depth) {
        String[] names = {"sum", "rest", "value", "minute", "coins", "who"};
        if (depth <= 0) return random.nextInt(3) == 0 ? "" + random.nextInt(20) : names[random.nextInt(6)];
        String one = expression(random, depth - 1 - random.nextInt(3));
        switch (random.nextInt(12)) {
            case 0: return "(" + one + ")";
            case 1: return "-" + one;
            case 2: return "not " + one;
            case 3: return one + " or " + expression(random, depth - 2);
            case 4: return one + " and " + expression(random, depth - 2);
            case 5: case 6: return one + "<" + expression(random, depth - 3);
            case 7: case 8: return one + "=" + expression(random, depth - 3);
            case 9: return one + "+" + expression(random, depth - 2);
            case 10: return one + "-" + expression(random, depth - 2);
            default: return one + "*" + expression(random, depth - 2);
        }
    }

    /** A sheet of rows that may be told of a morning: coins, and whether they open. */
    private static int cells(Random random, OpensAtNine x, Model m, List<String> told) {
        int s = random.nextInt(4), sort = random.nextInt(3), rows = random.nextInt(5);
        due(told, "sheet(" + s + ", " + sort + ", " + 2 * rows + ")", x.sheet(s, sort, 2 * rows), m.sheet(s, sort, 2 * rows));
        for (int i = 0; i < 2 * rows; i++) {
            int v = i % 2 == 0 ? random.nextInt(12) : random.nextInt(2);
            due(told, "cell(" + s + ", " + i + ", " + v + ")", x.cell(s, i, v), m.cell(s, i, v));
        }
        return 1 + 2 * rows;
    }

    /** A sheet of coins, most of them as coin() takes them. */
    private static int purse(Random random, OpensAtNine x, Model m, List<String> told) {
        int s = random.nextInt(4), sort = random.nextInt(3), coins = random.nextInt(4), at = random.nextInt(3);
        int size = at + 4 * coins + random.nextInt(2);
        due(told, "sheet(" + s + ", " + sort + ", " + size + ")", x.sheet(s, sort, size), m.sheet(s, sort, size));
        for (int i = at; i < size; i++) {
            int[] most = {Math.max(1, m.now.people), 6, 31, 10};
            int v = random.nextInt(12) == 0 ? 35 : random.nextInt(most[(i - at) % 4]);
            due(told, "cell(" + s + ", " + i + ", " + v + ")", x.cell(s, i, v), m.cell(s, i, v));
        }
        int n = Math.min(7, coins + random.nextInt(2));
        due(told, "coinsBy(" + s + ", " + sort + ", " + at + ", " + n + ")", x.coinsBy(s, sort, at, n),
            m.coinsBy(s, sort, at, n));
        return 2 + size;
    }

    /** Two sheets of one sort, and what is copied between them, at the edges too. */
    private static int like(Random random, OpensAtNine x, Model m, List<String> told) {
        int s = random.nextInt(4), other = random.nextInt(4);
        if (m.sheets[s] == null) return 0;
        int size = random.nextInt(7), n = random.nextInt(6), i = random.nextInt(6), j = random.nextInt(6);
        if (other != s) {
            due(told, "sheet(" + other + ", " + m.sorts[s] + ", " + size + ")", x.sheet(other, m.sorts[s], size),
                m.sheet(other, m.sorts[s], size));
        }
        due(told, "copy(" + s + ", " + i + ", " + other + ", " + j + ", " + n + ")", x.copy(s, i, other, j, n),
            m.copy(s, i, other, j, n));
        due(told, "which(" + other + ", 3)", x.which(other, 3), m.which(other, 3));
        return 3;
    }

    private static void due(List<String> told, String call, long got, long want) {
        asked++;
        told.add(call + " " + want);
        if (got == want) return;
        wrong++;
        System.out.println(call + " answered " + got + ", the model " + want + ", behind " + told.size() + " calls:");
        for (int i = Math.max(0, told.size() - 40); i < told.size(); i++) System.out.println("    " + told.get(i));
    }

    // ---- the model

    private static final class Coin {
        final int kind, told, more;
        int own;
        boolean spent;

        Coin(int own, int kind, int told, int more) {
            this.own = own;
            this.kind = kind;
            this.told = told;
            this.more = more;
        }

        Coin again() {
            Coin c = new Coin(own, kind, told, more);
            c.spent = spent;
            return c;
        }

        int counts(int sum) {
            int coin = told, seven = 7 * coin, worn = Math.max(0, coin - more), button = sum % 2 == 0 ? 0 : worn;
            int pair = 2 * seven + more, foreign = coin + sum % (more + 1);
            return new int[] {coin, seven, worn, button, pair, foreign}[kind];
        }

        int costs() {
            return new int[] {told, told, told, told / 3, 2 * told, told}[kind];
        }
    }

    private static final class Morning {
        int number = 9, sum, minute, people, law;
        boolean[] inside = new boolean[4];
        List<Coin> coins = new ArrayList<>();
        boolean opened;

        Morning again() {
            Morning n = new Morning();
            n.number = number;
            n.sum = sum;
            n.minute = minute;
            n.people = people;
            n.law = law;
            n.inside = inside.clone();
            for (Coin c : coins) n.coins.add(c.again());
            return n;
        }

        int left(int who) {
            int many = 0;
            for (Coin c : coins) if (c.own == who && !c.spent) many++;
            return many;
        }

        boolean may(int c) {
            return c >= 0 && c < coins.size() && !coins.get(c).spent && !inside[coins.get(c).own];
        }

        int bits() {
            int bits = 0;
            for (int p = 0; p < 4; p++) if (inside[p]) bits += 1 << p;
            return bits;
        }
    }

    private interface E {
        int is(int[] names);
    }

    private static final class Fault extends Exception {
        final int place;

        Fault(int place) {
            super(null, null, false, false);
            this.place = place;
        }
    }

    private static final class Token {
        final int place;
        final String text;

        Token(int place, String text) {
            this.place = place;
            this.text = text;
        }
    }

    /** Cuts the whole tape first; what is no token is cut as "?", and so never due. */
    private static final class Parser {
        static final List<String> NAMES = List.of("sum", "rest", "value", "minute", "coins", "who");
        static final List<String> KEYS = List.of("opens", "worth", "haste", "or", "and", "not");
        final List<Token> tokens = new ArrayList<>();
        int next;

        Parser(String tape) {
            int i = 0;
            while (i < tape.length()) {
                int j = i;
                while (j < tape.length() && tape.charAt(j) >= 'a' && tape.charAt(j) <= 'z') j++;
                if (j == i) while (j < tape.length() && tape.charAt(j) >= '0' && tape.charAt(j) <= '9') j++;
                if (j == i) j++;
                String text = tape.substring(i, j);
                boolean word = NAMES.contains(text) || KEYS.contains(text);
                boolean known = word || text.matches("[0-9]{1,4}") || text.matches("[();+\\-*<=]");
                if (!text.equals(" ") && !text.equals("\n")) tokens.add(new Token(i, known ? text : "?"));
                i = j;
            }
            tokens.add(new Token(tape.length(), "end"));
        }

        E[] text() throws Fault {
            E[] parts = new E[3];
            for (int part = 0; part < 3; part++) {
                must(KEYS.get(part));
                parts[part] = or(0);
                must(";");
            }
            must("end");
            return parts;
        }

        boolean is(String text) {
            return tokens.get(next).text.equals(text);
        }

        Fault fault() {
            return new Fault(tokens.get(next).place);
        }

        void must(String text) throws Fault {
            if (!is(text)) throw fault();
            next++;
        }

        E or(int open) throws Fault {
            E a = and(open);
            while (is("or")) {
                next++;
                E x = a, y = and(open);
                a = n -> x.is(n) != 0 || y.is(n) != 0 ? 1 : 0;
            }
            return a;
        }

        E and(int open) throws Fault {
            E a = not(open);
            while (is("and")) {
                next++;
                E x = a, y = not(open);
                a = n -> x.is(n) != 0 && y.is(n) != 0 ? 1 : 0;
            }
            return a;
        }

        E not(int open) throws Fault {
            if (is("not")) {
                if (open == 5) throw fault();
                next++;
                E x = not(open + 1);
                return n -> x.is(n) == 0 ? 1 : 0;
            }
            E x = sum(open);
            if (is("<")) {
                next++;
                E y = sum(open);
                return n -> x.is(n) < y.is(n) ? 1 : 0;
            }
            if (is("=")) {
                next++;
                E y = sum(open);
                return n -> x.is(n) == y.is(n) ? 1 : 0;
            }
            return x;
        }

        E sum(int open) throws Fault {
            E a = term(open);
            while (is("+") || is("-")) {
                boolean more = is("+");
                next++;
                E x = a, y = term(open);
                a = n -> more ? x.is(n) + y.is(n) : x.is(n) - y.is(n);
            }
            return a;
        }

        E term(int open) throws Fault {
            E a = one(open);
            while (is("*")) {
                next++;
                E x = a, y = one(open);
                a = n -> x.is(n) * y.is(n);
            }
            return a;
        }

        E one(int open) throws Fault {
            String text = tokens.get(next).text;
            if (text.matches("[0-9]+")) {
                next++;
                return n -> Integer.parseInt(text);
            }
            if (NAMES.contains(text)) {
                next++;
                return n -> n[NAMES.indexOf(text)];
            }
            if (!text.equals("-") && !text.equals("(") || open == 5) throw fault();
            next++;
            if (text.equals("-")) {
                E x = one(open + 1);
                return n -> -x.is(n);
            }
            E x = or(open + 1);
            must(")");
            return x;
        }
    }

    private static final class Model {
        Morning now = new Morning(), kept;
        String tape = "";
        final List<E[]> texts = new ArrayList<>();
        final int[][] sheets = new int[4][];
        final int[] sorts = new int[4];

        Model() {
            try {
                texts.add(new Parser("opens rest = 0 ; worth 20 ; haste minute ; ").text());
            } catch (Fault f) {
                throw new IllegalStateException("the first text");
            }
        }

        int says(Morning m, int part, int sum, int value, int minute, int coins, int who) {
            int is = texts.get(m.law)[part].is(new int[] {sum, sum % m.number, value, minute, coins, who});
            return part == 0 ? is != 0 ? 1 : 0 : is < 0 ? 0 : is > 99 ? 99 : is;
        }

        Morning putIn(Morning from, int c) {
            Morning m = from.again();
            Coin coin = m.coins.get(c);
            int value = coin.counts(m.sum);
            m.sum = Math.min(m.sum + value, 9999);
            coin.spent = true;
            m.opened = says(m, 0, m.sum, value, m.minute, m.left(coin.own), coin.own) == 1;
            m.minute = Math.min(m.minute + 1, 99);
            if (m.opened) m.inside[coin.own] = true;
            return m;
        }

        int worth(Morning m, int p) {
            int worth = m.inside[p] ? says(m, 1, m.sum, 0, m.minute, m.left(p), p) : 0;
            return worth - says(m, 2, m.sum, 0, m.minute, m.left(p), p);
        }

        int set(int what, int v) {
            if (what < 0 || what > 2) return -1;
            int least = what == 0 ? 2 : 0, most = what == 0 ? 20 : what == 1 ? 9999 : 99;
            if (v < least || v > most) return -2;
            int was = count(what);
            if (what == 0) now.number = v;
            if (what == 1) now.sum = v;
            if (what == 2) now.minute = v;
            return was;
        }

        int come() {
            return now.people == 4 ? -4 : now.people++;
        }

        int stand(int p, int is) {
            if (p < 0 || p >= now.people) return -5;
            if (is != 0 && is != 1) return -7;
            int was = now.inside[p] ? 1 : 0;
            now.inside[p] = is == 1;
            return was;
        }

        int count(int what) {
            int[] all = {now.number, now.sum, now.minute, now.people, now.bits(), now.coins.size(), texts.size(), now.law,
                tape.length()};
            return what < 0 || what >= all.length ? -2 : all[what];
        }

        int feed(int n, int... bytes) {
            if (n < 1 || n > 5) return -2;
            for (int b : bytes) if (b < 0 || b > 255) return -2;
            if (tape.length() + n > 160) return -4;
            for (int k = 0; k < n; k++) tape += (char) bytes[k];
            return tape.length();
        }

        int text() {
            if (texts.size() == 6) return -4;
            String read = tape;
            tape = "";
            try {
                texts.add(new Parser(read).text());
                return texts.size() - 1;
            } catch (Fault f) {
                return -100 - f.place;
            }
        }

        int force(int t) {
            if (t < 0 || t >= texts.size()) return -2;
            int was = now.law;
            now.law = t;
            return was;
        }

        int asks(int part, int all, int value, int when, int manyWho) {
            if (part < 0 || part > 2 || all < 0 || all > 9999 || value < 0 || value > 999) return -2;
            if (when < 0 || when > 99 || manyWho < 0 || manyWho > 99) return -2;
            return says(now, part, all, value, when, manyWho / 10, manyWho % 10);
        }

        int coin(int whose, int kind, int told, int more) {
            if (whose < 0 || whose >= now.people || kind < 0 || kind > 5) return -2;
            if (told < 0 || told > 30 || more < 0 || more > 9) return -2;
            if (now.coins.size() == 7) return -4;
            now.coins.add(new Coin(whose, kind, told, more));
            return now.coins.size() - 1;
        }

        int sell(int c, int whose) {
            if (c < 0 || c >= now.coins.size()) return -5;
            if (whose < 0 || whose >= now.people) return -7;
            if (now.coins.get(c).spent) return -3;
            int was = now.coins.get(c).own;
            now.coins.get(c).own = whose;
            return was;
        }

        int told(int c, int what) {
            if (c < 0 || c >= now.coins.size()) return -5;
            if (what < 0 || what > 6) return -7;
            Coin k = now.coins.get(c);
            return new int[] {k.own, k.kind, k.told, k.more, k.spent ? 1 : 0, k.counts(now.sum), k.costs()}[what];
        }

        int put(int c) {
            if (c < 0 || c >= now.coins.size()) return -5;
            if (!now.may(c)) return -3;
            now = putIn(now, c);
            return now.opened ? 1 : 0;
        }

        int worth(int p) {
            return p < 0 || p >= now.people ? -100000 : worth(now, p);
        }

        // a way in is a text of digits, which is in order as the coins are
        String cheapest(Morning from, int gang) {
            List<String> ways = new ArrayList<>();
            ways(from, gang, "", ways);
            String best = null;
            for (String way : ways) {
                if (best == null || cost(way) < cost(best) || cost(way) == cost(best) && way.compareTo(best) < 0) best = way;
            }
            return best;
        }

        void ways(Morning m, int gang, String way, List<String> ways) {
            if ((m.bits() & gang) == gang) {
                ways.add(way);
                return;
            }
            for (int c = m.coins.size() - 1; c >= 0; c--) {
                if (m.may(c) && (gang >> m.coins.get(c).own & 1) == 1) ways(putIn(m, c), gang, way + (c + 1), ways);
            }
        }

        int cost(String way) {
            int cost = 0;
            for (char digit : way.toCharArray()) cost += now.coins.get(digit - '1').costs();
            return cost;
        }

        int gang(int set, int what) {
            if (set < 1 || set >> now.people != 0) return -5;
            if (what < 0 || what > 2) return -7;
            String way = cheapest(now, set);
            if (way == null) return -1;
            return what == 0 ? cost(way) : what == 1 ? way.length() : way.isEmpty() ? 0 : Integer.parseInt(way);
        }

        int spare(int p, int q) {
            if (p < 0 || p >= now.people || q < 0 || q >= now.people || p == q) return -100000;
            String one = cheapest(now, 1 << p), both = cheapest(now, 1 << p | 1 << q);
            if (one == null || both == null) return -1;
            Morning behind = now;
            for (char digit : one.toCharArray()) behind = putIn(behind, digit - '1');
            String other = cheapest(behind, 1 << q);
            return other == null ? -1 : cost(one) + cost(other) - cost(both);
        }

        int reach(int p) {
            return p < 0 || p >= now.people ? -5 : rests(now, p);
        }

        int rests(Morning m, int p) {
            int rests = 1 << m.sum % m.number;
            for (int c = 0; c < m.coins.size(); c++) {
                if (m.coins.get(c).own == p && !m.coins.get(c).spent) rests |= rests(putIn(m, c), p);
            }
            return rests;
        }

        int keys() {
            int keys = 0;
            for (int c = 0; c < 7; c++) if (now.may(c) && putIn(now, c).opened) keys += 1 << c;
            return keys;
        }

        int gifts() {
            int gifts = 0;
            for (int c = 0; c < 7; c++) {
                if (!now.may(c)) continue;
                Morning behind = putIn(now, c);
                boolean gift = false;
                for (int d = 0; d < 7; d++) {
                    if (now.may(d) && now.coins.get(d).own != now.coins.get(c).own) gift |= putIn(behind, d).opened;
                }
                if (gift) gifts += 1 << c;
            }
            return gifts;
        }

        /** Ends of all, told with what each paid till then, and behind them what is done as digits. */
        int[] turns(Morning m, int turn, int steps, int[] paid) {
            if (turn == steps) {
                int[] ends = new int[5];
                for (int p = 0; p < m.people; p++) ends[p] = worth(m, p) - paid[p];
                return ends;
            }
            int who = turn % m.people, ten = 1;
            for (int k = turn + 1; k < steps; k++) ten *= 10;
            Morning wait = m.again();
            wait.minute = Math.min(wait.minute + 1, 99);
            int[] best = turns(wait, turn + 1, steps, paid);
            for (int c = 0; c < m.coins.size(); c++) {
                if (!m.may(c) || m.coins.get(c).own != who) continue;
                int[] then = paid.clone();
                then[who] += m.coins.get(c).costs();
                int[] ends = turns(putIn(m, c), turn + 1, steps, then);
                if (ends[who] <= best[who]) continue;
                best = ends;
                best[4] += (c + 1) * ten;
            }
            return best;
        }

        int rest(int p, int steps) {
            if (p < 0 || p >= now.people || steps < 0 || steps > 6) return -100000;
            return turns(now, 0, steps, new int[4])[p];
        }

        int moves(int steps) {
            return steps < 0 || steps > 6 || now.people == 0 ? -2 : turns(now, 0, steps, new int[4])[4];
        }

        int play(int steps) {
            int line = moves(steps);
            if (line < 0) return line;
            String digits = steps == 0 ? "" : String.format("%0" + steps + "d", line);
            for (char digit : digits.toCharArray()) {
                if (digit == '0') now.minute = Math.min(now.minute + 1, 99);
                else now = putIn(now, digit - '1');
            }
            return Integer.bitCount(now.bits());
        }

        int rows(int s) {
            return s < 0 || s > 3 ? -2 : sheets[s] == null ? -11 : sheets[s].length % 2 == 1 ? -2 : 0;
        }

        List<Integer> fitting(int s, int start) {
            List<Integer> fit = new ArrayList<>();
            for (int m = 2; m <= 20; m++) {
                int sum = start;
                boolean so = true;
                for (int i = 0; i < sheets[s].length; i += 2) {
                    sum += sheets[s][i];
                    int rest = (sum % m + m) % m;
                    so &= rest == 0 ? sheets[s][i + 1] == 1 : sheets[s][i + 1] != 1;
                }
                if (so) fit.add(m);
            }
            return fit;
        }

        int which(int s, int start) {
            if (rows(s) != 0) return rows(s);
            if (start < 0 || start > 9999) return -7;
            int bits = 0;
            for (int m : fitting(s, start)) bits += 1 << m;
            return bits;
        }

        int next(int s, int start, int what) {
            if (rows(s) != 0) return rows(s);
            if (start < 0 || start > 9999 || what < 0 || what > 1) return -7;
            List<Integer> fit = fitting(s, start);
            int sum = start, best = 0, fewest = 99;
            for (int i = 0; i < sheets[s].length; i += 2) sum += sheets[s][i];
            for (int bring = 30; bring >= 1; bring--) {
                int none = 0;
                for (int m : fit) if ((sum + bring) % m == 0) none++;
                int worst = Math.max(none, fit.size() - none);
                if (worst > fewest) continue;
                fewest = worst;
                best = bring;
            }
            return what == 0 ? best : fewest;
        }

        int judge(Morning from, int s) {
            Morning m = from;
            for (int row = 0; row < sheets[s].length / 2; row++) {
                int c = sheets[s][2 * row];
                if (!m.may(c)) return row;
                m = putIn(m, c);
                if (sheets[s][2 * row + 1] != (m.opened ? 1 : 0)) return row;
            }
            return -1;
        }

        int judge(int s) {
            return rows(s) != 0 ? rows(s) : judge(now, s);
        }

        int laws(int s) {
            if (rows(s) != 0) return rows(s);
            int bits = 0;
            for (int t = 0; t < texts.size(); t++) {
                Morning m = now.again();
                m.law = t;
                if (judge(m, s) == -1) bits += 1 << t;
            }
            return bits;
        }

        int numbers(int s) {
            if (rows(s) != 0) return rows(s);
            int bits = 0;
            for (int n = 2; n <= 20; n++) {
                Morning m = now.again();
                m.number = n;
                if (judge(m, s) == -1) bits += 1 << n;
            }
            return bits;
        }

        int film(int s) {
            if (s < 0 || s > 3) return -2;
            List<Integer> rows = new ArrayList<>();
            Morning m = now;
            for (int c = 0; c < now.coins.size(); c++) {
                if (!m.may(c)) continue;
                m = putIn(m, c);
                rows.add(c);
                rows.add(m.opened ? 1 : 0);
            }
            sorts[s] = 2;
            sheets[s] = rows.stream().mapToInt(i -> i).toArray();
            return rows.size() / 2;
        }

        int drawn(int seed) {
            return seed < 0 || seed > 99999 ? -2 : draw(seed);
        }

        int draw(int seed) {
            Morning m = now;
            long lot = (seed + 1L) * 48271 % 2147483647;
            for (int k = 1; k <= 14 && !m.coins.isEmpty(); k++) {
                int c = (int) (lot % m.coins.size());
                if (m.may(c)) m = putIn(m, c);
                lot = lot * 48271 % 2147483647;
            }
            return Integer.bitCount(m.bits());
        }

        long mean(int seed, int seeds, int part) {
            if (seed < 0 || seed > 99999 || seeds < 1 || seeds > 40 || part < 0 || part > 1) return Long.MIN_VALUE / 2;
            int above = 0, below = seeds;
            for (int k = 0; k < seeds; k++) above += draw(seed + k);
            int a = above, b = below;
            while (a != 0) {
                int r = b % a;
                b = a;
                a = r;
            }
            return part == 0 ? above / b : below / b;
        }

        int image() {
            kept = now.again();
            return now.coins.size();
        }

        int back() {
            if (kept == null) return -3;
            now = kept.again();
            return now.coins.size();
        }

        int sheet(int s, int sort, int n) {
            if (s < 0 || s > 3 || sort < -1 || sort > 2) return -2;
            if (sort >= 0 && n > 40) return -2;
            if (sort >= 0 && n < 0) return -14;
            sheets[s] = sort < 0 ? null : new int[n];
            sorts[s] = sort;
            return 1;
        }

        int cell(int s, int i, int v) {
            if (s < 0 || s > 3) return -2;
            if (sheets[s] == null) return -11;
            if (i < 0 || i >= sheets[s].length) return -12;
            sheets[s][i] = sorts[s] == 0 ? (byte) v : sorts[s] == 1 ? (short) v : v;
            return 1;
        }

        int copy(int s, int i, int other, int j, int n) {
            if (s < 0 || s > 3 || other < 0 || other > 3) return -2;
            if (sheets[s] == null || sheets[other] == null) return -11;
            if (sorts[s] != sorts[other]) return -13;
            if (n < 0 || i < 0 || j < 0) return -12;
            if ((long) i + n > sheets[s].length || (long) j + n > sheets[other].length) return -12;
            int[] as = sheets[s].clone();
            for (int k = 0; k < n; k++) sheets[other][j + k] = as[i + k];
            return n;
        }

        int coinsBy(int s, int sort, int at, int n) {
            if (s < 0 || s > 3 || sort < 0 || sort > 2 || n < 0 || n > 7) return -2;
            if (sheets[s] == null) return -11;
            if (sorts[s] != sort) return -13;
            int came = 0;
            for (long i = at; i < (long) at + 4L * n; i += 4) {
                if (i < 0 || i + 3 >= sheets[s].length) return -12;
                int[] c = Arrays.copyOfRange(sheets[s], (int) i, (int) i + 4);
                if (coin(c[0], c[1], c[2], c[3]) >= 0) came++;
            }
            return came;
        }

        int taken(int i, int kind) {
            if (kind < 0 || kind > 6) return -2;
            if (i < 0 || i > 10) return -12;
            if (i < 4) {
                if (!now.inside[i] || i >= now.people) return -11;
                return kind == 6 ? now.left(i) : -13;
            }
            int c = i - 4;
            if (c >= now.coins.size() || now.coins.get(c).spent) return -11;
            int[] above = {-1, 0, 0, 2, 1, 0};
            for (int k = now.coins.get(c).kind; k >= 0; k = above[k]) if (k == kind) return c;
            return -13;
        }
    }
}

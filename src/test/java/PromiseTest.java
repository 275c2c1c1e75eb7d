/** Each promise by ordinary inputs, by the edges that the document names, and by wrong inputs; all told by hand. */
public final class PromiseTest {
    private static final int NONE = -1, BAD = -2, STATE = -3, FULL = -4;
    private static final String LAW = "opens rest = 0 ; worth 20 ; haste minute ; ";

    private static int wrong = 0, asked = 0;
    private static String promise = "";

    public static void main(String[] args) {
        newObject();
        set();
        come();
        stand();
        count();
        feed();
        textsThatStand();
        textFaults();
        textFull();
        textValues();
        force();
        asks();
        coin();
        sell();
        told();
        put();
        putByALaw();
        worth();
        gang();
        gangByOthers();
        spare();
        reach();
        keys();
        gifts();
        rest();
        moves();
        play();
        which();
        next();
        judge();
        laws();
        numbers();
        film();
        drawn();
        mean();
        image();
        sheet();
        cell();
        copy();
        coinsBy();
        taken();
        System.out.println(asked + " answers asked, " + wrong + " not as due");
        if (wrong != 0) System.exit(1);
    }

    // ---- what the tests share

    private static void due(String call, long got, long want) {
        asked++;
        if (got == want) return;
        wrong++;
        System.out.println(promise + ": " + call + " answered " + got + ", due is " + want);
    }

    private static OpensAtNine gateOf(int people) {
        OpensAtNine x = new OpensAtNine();
        for (int p = 0; p < people; p++) x.come();
        return x;
    }

    /** People, and behind them coins, four by four. */
    private static OpensAtNine gateOf(int people, int... coins) {
        OpensAtNine x = gateOf(people);
        for (int i = 0; i + 3 < coins.length; i += 4) {
            due("coin " + i / 4, x.coin(coins[i], coins[i + 1], coins[i + 2], coins[i + 3]), i / 4);
        }
        return x;
    }

    private static void feedAll(OpensAtNine x, String bytes) {
        for (int i = 0; i < bytes.length(); i++) x.feed(1, bytes.charAt(i), 0, 0, 0, 0);
    }

    private static int textOf(OpensAtNine x, String bytes) {
        feedAll(x, bytes);
        return x.text();
    }

    private static void lawOf(OpensAtNine x, String bytes) {
        int t = textOf(x, bytes);
        due("a text: " + bytes, t > 0 ? 1 : t, 1);
        x.force(t);
    }

    private static void sheetOf(OpensAtNine x, int s, int sort, int... numbers) {
        due("sheet()", x.sheet(s, sort, numbers.length), 1);
        for (int i = 0; i < numbers.length; i++) due("cell()", x.cell(s, i, numbers[i]), 1);
    }

    /** What lies in a sheet of ints at i: a text of what which() can tell apart would be too dear. */
    private static boolean holds(OpensAtNine x, int s, int i, int number) {
        x.sheet(3, 2, 2);
        x.copy(s, i, 3, 0, 1);
        x.cell(3, 1, 1);
        int noRest = x.which(3, 0), want = 0;
        for (int m = 2; m <= 20; m++) if (Math.floorMod(number, m) == 0) want |= 1 << m;
        return noRest == want;
    }

    // ---- the gate, people, the law

    private static void newObject() {
        promise = "1 a new object";
        OpensAtNine x = new OpensAtNine();
        int[] first = {9, 0, 0, 0, 0, 0, 1, 0, 0};
        for (int what = 0; what < first.length; what++) due("count(" + what + ")", x.count(what), first[what]);
        for (int s = 0; s < 4; s++) due("cell(" + s + ")", x.cell(s, 0, 0), -11);
        due("back()", x.back(), STATE);
        due("keys()", x.keys(), 0);
        due("gifts()", x.gifts(), 0);
        due("told(0, 0)", x.told(0, 0), -5);
        due("opens at 18", x.asks(0, 18, 0, 5, 0), 1);
        due("opens at 19", x.asks(0, 19, 0, 5, 0), 0);
        due("worth", x.asks(1, 5, 7, 9, 11), 20);
        due("haste", x.asks(2, 5, 7, 37, 11), 37);
        OpensAtNine y = new OpensAtNine();
        y.come();
        due("another one's count(3)", x.count(3), 0);
    }

    private static void set() {
        promise = "2 set";
        OpensAtNine x = new OpensAtNine();
        int[][] edges = {{2, 20, 9}, {0, 9999, 0}, {0, 99, 0}};
        for (int what = 0; what < 3; what++) {
            int least = edges[what][0], most = edges[what][1];
            due("set(" + what + ", least)", x.set(what, least), edges[what][2]);
            due("set(" + what + ", most)", x.set(what, most), least);
            due("set(" + what + ", above)", x.set(what, most + 1), BAD);
            due("set(" + what + ", below)", x.set(what, least - 1), BAD);
            due("count(" + what + ")", x.count(what), most);
            due("set(" + what + ", 7)", x.set(what, 7), most);
            due("count(" + what + ")", x.count(what), 7);
        }
        due("set(3, 5)", x.set(3, 5), NONE);
        due("set(-1, 5)", x.set(-1, 5), NONE);
        due("set(3, -1)", x.set(3, -1), NONE);
        due("set(MIN, MIN)", x.set(Integer.MIN_VALUE, Integer.MIN_VALUE), NONE);
        due("set(1, MAX)", x.set(1, Integer.MAX_VALUE), BAD);
    }

    private static void come() {
        promise = "3 come";
        OpensAtNine x = new OpensAtNine();
        for (int p = 0; p < 4; p++) {
            due("come()", x.come(), p);
            due("count(3)", x.count(3), p + 1);
        }
        due("come()", x.come(), FULL);
        due("count(3)", x.count(3), 4);
        due("count(4)", x.count(4), 0);
    }

    private static void stand() {
        promise = "4 stand";
        OpensAtNine x = gateOf(3);
        due("stand(2, 1)", x.stand(2, 1), 0);
        due("count(4)", x.count(4), 4);
        due("stand(0, 1)", x.stand(0, 1), 0);
        due("stand(0, 1)", x.stand(0, 1), 1);
        due("count(4)", x.count(4), 5);
        due("stand(2, 0)", x.stand(2, 0), 1);
        due("stand(1, 0)", x.stand(1, 0), 0);
        due("count(4)", x.count(4), 1);
        due("stand(3, 1)", x.stand(3, 1), -5);
        due("stand(-1, 1)", x.stand(-1, 1), -5);
        due("stand(3, 2)", x.stand(3, 2), -5);
        due("stand(0, 2)", x.stand(0, 2), -7);
        due("stand(0, -1)", x.stand(0, -1), -7);
        due("count(4)", x.count(4), 1);
    }

    private static void count() {
        promise = "5 count";
        OpensAtNine x = gateOf(2, 0, 0, 1, 0, 1, 0, 2, 0, 1, 0, 3, 0);
        x.set(0, 4);
        x.set(1, 77);
        x.set(2, 6);
        x.stand(1, 1);
        x.force(textOf(x, LAW));
        x.feed(3, 1, 2, 3, 0, 0);
        int[] now = {4, 77, 6, 2, 2, 3, 2, 1, 3};
        for (int what = 0; what < now.length; what++) due("count(" + what + ")", x.count(what), now[what]);
        due("count(9)", x.count(9), BAD);
        due("count(-1)", x.count(-1), BAD);
    }

    private static void feed() {
        promise = "6 feed";
        OpensAtNine x = new OpensAtNine();
        due("feed(0)", x.feed(0, 1, 1, 1, 1, 1), BAD);
        due("feed(6)", x.feed(6, 1, 1, 1, 1, 1), BAD);
        int[] bytes = new int[5];
        for (int k = 0; k < 5; k++) {
            bytes[k] = 256;
            due("byte " + k, x.feed(1, bytes[0], bytes[1], bytes[2], bytes[3], bytes[4]), BAD);
            bytes[k] = -1;
            due("byte " + k, x.feed(5, bytes[0], bytes[1], bytes[2], bytes[3], bytes[4]), BAD);
            bytes[k] = 255;
        }
        due("count(8)", x.count(8), 0);
        due("feed(5)", x.feed(5, 255, 0, 255, 0, 255), 5);
        due("text()", x.text(), -100);
        due("feed(5)", x.feed(5, 'o', 'p', 'e', 'n', 's'), 5);
        due("feed(2)", x.feed(2, ' ', '1', '?', '?', '?'), 7);
        due("feed(3)", x.feed(3, ';', 'w', 'o', '?', '?'), 10);
        due("feed(4)", x.feed(4, 'r', 't', 'h', '2', '?'), 14);
        due("feed(1)", x.feed(1, ';', '?', '?', '?', '?'), 15);
        due("text()", x.text(), -115);
        for (int k = 1; k <= 31; k++) due("feed(5)", x.feed(5, 32, 32, 32, 32, 32), 5 * k);
        due("feed(4)", x.feed(4, 32, 32, 32, 32, 32), 159);
        due("feed(2)", x.feed(2, 33, 33, 33, 33, 33), FULL);
        due("feed(2), bad", x.feed(2, 33, 33, 33, 33, 333), BAD);
        due("count(8)", x.count(8), 159);
        due("feed(1)", x.feed(1, 10, 33, 33, 33, 33), 160);
        due("feed(1)", x.feed(1, 10, 33, 33, 33, 33), FULL);
        due("text()", x.text(), -260);
        due("count(8)", x.count(8), 0);
    }

    private static void textsThatStand() {
        promise = "7 text";
        String[] right = {
            "opens 1;worth 2;haste 3;",
            " \n opens\n1 ;worth 2;haste 3; \n",
            "opens(1);worth(2);haste(3);",
            "opens not not not not not 1;worth-----1;haste(((((1)))));",
            "opens(1)+(1)+(1)+(1)+(1)+(1)+-1*-1*-1-1-1-1-1-1-1;worth 0;haste 0;",
            "opens not 1 and not 1 or not 1 and not 1 or not 1 and not 1 or(1=1);worth 0;haste 0;",
            "opens not(-(-1));worth 9999;haste 0000;",
            "opens 1<sum;worth 2;haste 3;",
            "opens sum<rest and value=minute or coins+who*7;worth--1;haste 1--1;",
        };
        for (String bytes : right) {
            OpensAtNine x = new OpensAtNine();
            due(bytes, textOf(x, bytes), 1);
            due("count(6)", x.count(6), 2);
            due("count(7)", x.count(7), 0);
            due("count(8)", x.count(8), 0);
        }
    }

    private static void fault(String bytes, int place) {
        OpensAtNine x = new OpensAtNine();
        due(bytes, textOf(x, bytes), -100 - place);
        due("count(6) by a fault", x.count(6), 1);
        due("count(8) by a fault", x.count(8), 0);
        due("a text behind a fault", textOf(x, "opens(((((1)))));worth 2;haste not not not not not 3;"), 1);
        due("what it opens", x.asks(0, 0, 0, 0, 0), 1);
        due("the law is as ahead", x.asks(1, 0, 0, 0, 0), 20);
    }

    private static void textFaults() {
        promise = "7 text, faults";
        fault("", 0);
        fault(" \n ", 3);
        fault("opens", 5);
        fault("opens ", 6);
        fault("opens 1", 7);
        fault("opens 1;", 8);
        fault("opens 1;worth 2;haste 3", 23);
        fault("opens 1;worth 2;haste 3; x", 25);
        fault("opens 1;worth 2;haste 3;;", 24);
        fault("opens 1;worth 2;haste 3;#", 24);
        fault("worth 1;", 0);
        fault("opens 1;opens 1;", 8);
        fault("opens 1;haste 1;", 8);
        fault("opens 1 worth", 8);
        fault("opens sums;", 6);
        fault("opens su;", 6);
        fault("opens tum;", 6);
        fault("opens sumz;", 6);
        fault("opens zsum;", 6);
        fault("opens -xyz 1;", 7);
        fault("opens not xyz 1;", 10);
        fault("opens -#1;", 7);
        fault("opens -12345;", 7);
        fault("opens 1;worth 2;haste 3;5", 24);
        fault("opens 1;worth 2;haste 3;sum", 24);
        fault("opens Sum;", 6);
        fault("opens xyz", 6);
        fault("opens opens", 6);
        fault("opens or", 6);
        fault("opens ;", 6);
        fault("opens )", 6);
        fault("opens *1", 6);
        fault("opens +1", 6);
        fault("opens =1", 6);
        fault("opens 12345;", 6);
        fault("opens 00001;", 6);
        fault("opens 1\t;", 7);
        fault("opens 1\r;", 7);
        fault("opens 1>0;", 7);
        fault("opens " + (char) 200 + ";", 6);
        fault("opens " + (char) 0 + ";", 6);
        fault("opensrest=0;", 0);
        fault("opens sum5;", 9);
        fault("opens 5sum;", 7);
        fault("opens 1 2;", 8);
        fault("opens 1 < 2 < 3;", 12);
        fault("opens 1 = 2 < 3;", 12);
        fault("opens 1 < 2 = 3;", 12);
        fault("opens 1 < not 1;", 10);
        fault("opens 1 + not 1;", 10);
        fault("opens - not 1;", 8);
        fault("opens not;", 9);
        fault("opens 1 or;", 10);
        fault("opens 1 and;", 11);
        fault("opens 1 <;", 9);
        fault("opens 1 *;", 9);
        fault("opens 1 -;", 9);
        fault("opens (1;", 8);
        fault("opens (1", 8);
        fault("opens ();", 7);
        fault("opens 1);", 7);
        fault("opens not not not not not not 1;", 26);
        fault("opens ------1;", 11);
        fault("opens ((((((1", 11);
        fault("opens -(-(-(1", 11);
        fault("opens not(not(not(1", 17);
        fault("opens not not not not not sum = -1;", 32);
        fault("opens not not not not not (1);", 26);
        fault("opens (((((not 1", 11);
        fault("opens 1;worth ((((((1", 19);
    }

    private static void textFull() {
        promise = "7 text, full";
        OpensAtNine x = new OpensAtNine();
        for (int t = 1; t <= 5; t++) due("text()", textOf(x, "opens " + t + ";worth " + t + ";haste 0;"), t);
        feedAll(x, "?");
        due("text()", x.text(), FULL);
        due("count(8)", x.count(8), 1);
        due("text()", x.text(), FULL);
        feedAll(x, LAW);
        due("count(8)", x.count(8), 1 + LAW.length());
        due("text()", x.text(), FULL);
        due("count(6)", x.count(6), 6);
        for (int t = 1; t <= 5; t++) {
            due("force(t)", x.force(t), t - 1);
            due("worth of t", x.asks(1, 0, 0, 0, 0), t);
        }
        String longest = "opens 1;worth 2;haste 3;";
        OpensAtNine y = new OpensAtNine();
        due("160 bytes", textOf(y, " ".repeat(160 - longest.length()) + longest), 1);
        due("many steps", textOf(y, "opens 1;worth 1" + "+1".repeat(68) + ";haste 1;"), 2);
        y.force(2);
        due("what they come to", y.asks(1, 0, 0, 0, 0), 69);
    }

    private static void value(String e, int bounded) {
        OpensAtNine x = new OpensAtNine();
        lawOf(x, "opens " + e + ";worth " + e + ";haste " + e + ";");
        // sum 47, value 5, minute 6, coins 3, who 2; rest by 9 is 2
        due(e + ", worth", x.asks(1, 47, 5, 6, 32), bounded);
        due(e + ", haste", x.asks(2, 47, 5, 6, 32), bounded);
    }

    private static void truth(String e, int is) {
        OpensAtNine x = new OpensAtNine();
        lawOf(x, "opens " + e + ";worth 0;haste 0;");
        due(e + ", opens", x.asks(0, 47, 5, 6, 32), is);
    }

    private static void textValues() {
        promise = "7 text, what an E is";
        value("7", 7);
        value("0099", 99);
        value("100", 99);
        value("-1", 0);
        value("sum", 47);
        value("rest", 2);
        value("value", 5);
        value("minute", 6);
        value("coins", 3);
        value("who", 2);
        value("2+3*4", 14);
        value("2*3+4", 10);
        value("10-3-2", 5);
        value("10-3+2", 9);
        value("-2*-3", 6);
        value("5--3", 8);
        value("-2+5", 3);
        value("-(2-5)", 3);
        value("(2+3)*4", 20);
        value("2*(3+4)", 14);
        value("1<2", 1);
        value("2<1", 0);
        value("2<2", 0);
        value("-1<0", 1);
        value("2=2", 1);
        value("2=3", 0);
        value("1+1<3", 1);
        value("1<1+1", 1);
        value("7 or 0", 1);
        value("0 or 7", 1);
        value("7 or 7", 1);
        value("0 or 0", 0);
        value("7 and 5", 1);
        value("2 and 1", 1);
        value("7 and 0", 0);
        value("0 and 7", 0);
        value("not 7", 0);
        value("not 0", 1);
        value("not not 7", 1);
        value("1 or 1 and 0", 1);
        value("0 and 0 or 1", 1);
        value("(1 or 1) and 0", 0);
        value("not 1=2", 1);
        value("not 0 and 0", 0);
        value("not 0 or 1", 1);
        value("(not 0)+1", 2);
        value("(1<2)*50", 50);
        value("256*256*256*256+3", 3);
        value("(1+2*(3+4*(5<6)))+(7-(2-1))", 21);
        truth("0", 0);
        truth("1", 1);
        truth("7", 1);
        truth("-1", 1);
        truth("(256*256)*(256*256)", 0);
        truth("9999*9999*9999<0", 1);
        truth("9999*9999*9999+1027*1000*1000+3499*100+69=0", 1);
    }

    private static void force() {
        promise = "8 force";
        OpensAtNine x = new OpensAtNine();
        due("force(1)", x.force(1), BAD);
        due("force(-1)", x.force(-1), BAD);
        due("force(0)", x.force(0), 0);
        textOf(x, "opens 1;worth 2;haste 3;");
        textOf(x, "opens 0;worth 4;haste 5;");
        due("force(2)", x.force(2), 0);
        due("asks(1)", x.asks(1, 0, 0, 0, 0), 4);
        due("force(1)", x.force(1), 2);
        due("asks(1)", x.asks(1, 0, 0, 0, 0), 2);
        due("force(3)", x.force(3), BAD);
        due("count(7)", x.count(7), 1);
        due("force(0)", x.force(0), 1);
    }

    private static void asks() {
        promise = "9 asks";
        OpensAtNine x = new OpensAtNine();
        lawOf(x, "opens sum=1234 and value=999 and minute=98 and coins=7 and who=6;"
            + "worth rest*10+who;haste value-minute+coins;");
        due("asks(0)", x.asks(0, 1234, 999, 98, 76), 1);
        due("asks(0), sum", x.asks(0, 1235, 999, 98, 76), 0);
        due("asks(0), value", x.asks(0, 1234, 998, 98, 76), 0);
        due("asks(0), minute", x.asks(0, 1234, 999, 97, 76), 0);
        due("asks(0), coins", x.asks(0, 1234, 999, 98, 66), 0);
        due("asks(0), who", x.asks(0, 1234, 999, 98, 75), 0);
        due("asks(1)", x.asks(1, 17, 0, 0, 3), 83);
        due("asks(2)", x.asks(2, 17, 60, 8, 93), 61);
        x.set(0, 5);
        due("asks(1), by 5", x.asks(1, 17, 0, 0, 3), 23);
        due("asks(1), bound", x.asks(1, 17, 0, 0, 99), 29);
        due("asks(2), bound", x.asks(2, 0, 999, 0, 0), 99);
        due("asks(2), least", x.asks(2, 0, 0, 99, 0), 0);
        due("all edges", x.asks(0, 9999, 999, 99, 99), 0);
        due("part 3", x.asks(3, 0, 0, 0, 0), BAD);
        due("part -1", x.asks(-1, 0, 0, 0, 0), BAD);
        due("sum 10000", x.asks(0, 10000, 0, 0, 0), BAD);
        due("sum -1", x.asks(0, -1, 0, 0, 0), BAD);
        due("value 1000", x.asks(0, 0, 1000, 0, 0), BAD);
        due("value -1", x.asks(0, 0, -1, 0, 0), BAD);
        due("minute 100", x.asks(0, 0, 0, 100, 0), BAD);
        due("minute -1", x.asks(0, 0, 0, -1, 0), BAD);
        due("manyWho 100", x.asks(0, 0, 0, 0, 100), BAD);
        due("manyWho -1", x.asks(0, 0, 0, 0, -1), BAD);
        due("count(1)", x.count(1), 0);
        due("count(2)", x.count(2), 0);
    }

    // ---- coins

    private static void coin() {
        promise = "10 coin";
        OpensAtNine x = gateOf(2);
        due("whose 2", x.coin(2, 0, 0, 0), BAD);
        due("whose -1", x.coin(-1, 0, 0, 0), BAD);
        due("kind 6", x.coin(0, 6, 0, 0), BAD);
        due("kind -1", x.coin(0, -1, 0, 0), BAD);
        due("told 31", x.coin(0, 0, 31, 0), BAD);
        due("told -1", x.coin(0, 0, -1, 0), BAD);
        due("more 10", x.coin(0, 0, 0, 10), BAD);
        due("more -1", x.coin(0, 0, 0, -1), BAD);
        due("count(5)", x.count(5), 0);
        for (int c = 0; c < 7; c++) {
            due("coin()", x.coin(c % 2, c % 6, 30 - c, 9 - c), c);
            due("count(5)", x.count(5), c + 1);
        }
        due("coin()", x.coin(0, 0, 0, 0), FULL);
        due("coin(), bad", x.coin(0, 0, 0, 10), BAD);
        for (int c = 0; c < 7; c++) {
            due("told(c, 0)", x.told(c, 0), c % 2);
            due("told(c, 1)", x.told(c, 1), c % 6);
            due("told(c, 2)", x.told(c, 2), 30 - c);
            due("told(c, 3)", x.told(c, 3), 9 - c);
            due("told(c, 4)", x.told(c, 4), 0);
        }
        due("nobody's", new OpensAtNine().coin(0, 0, 0, 0), BAD);
    }

    private static void sell() {
        promise = "11 sell";
        OpensAtNine x = gateOf(3, 0, 0, 9, 0, 0, 0, 1, 0);
        due("sell(0, 2)", x.sell(0, 2), 0);
        due("told(0, 0)", x.told(0, 0), 2);
        due("told(1, 0)", x.told(1, 0), 0);
        due("sell(0, 1)", x.sell(0, 1), 2);
        due("sell(0, 1)", x.sell(0, 1), 1);
        due("sell(2, 1)", x.sell(2, 1), -5);
        due("sell(-1, 1)", x.sell(-1, 1), -5);
        due("sell(2, 9)", x.sell(2, 9), -5);
        due("sell(0, 3)", x.sell(0, 3), -7);
        due("sell(0, -1)", x.sell(0, -1), -7);
        due("put(0)", x.put(0), 1);
        due("count(4)", x.count(4), 2);
        due("sell(0, 0)", x.sell(0, 0), STATE);
        due("sell(0, 3)", x.sell(0, 3), -7);
        due("told(0, 0)", x.told(0, 0), 1);
        due("sell(1, 1)", x.sell(1, 1), 0);
        due("taken(1, 6)", x.taken(1, 6), 1);
    }

    private static void counts(int kind, int told, int more, int sum, int counts, int costs) {
        OpensAtNine x = gateOf(1, 0, kind, told, more);
        x.set(1, sum);
        due("kind " + kind + " counts by " + sum, x.told(0, 5), counts);
        due("kind " + kind + " costs", x.told(0, 6), costs);
        due("kind " + kind + " truly", x.put(0), (sum + counts) % 9 == 0 ? 1 : 0);
        due("kind " + kind + " makes", x.count(1), sum + counts);
        due("kind " + kind + " spent", x.told(0, 4), 1);
    }

    private static void told() {
        promise = "12 told";
        counts(0, 13, 4, 7, 13, 13);
        counts(0, 0, 0, 0, 0, 0);
        counts(1, 13, 4, 7, 91, 13);
        counts(2, 13, 4, 7, 9, 13);
        counts(2, 4, 9, 7, 0, 4);
        counts(2, 9, 9, 7, 0, 9);
        counts(3, 13, 4, 7, 9, 4);
        counts(3, 13, 4, 8, 0, 4);
        counts(3, 4, 9, 7, 0, 1);
        counts(3, 30, 0, 1, 30, 10);
        counts(4, 13, 4, 7, 186, 26);
        counts(4, 30, 9, 0, 429, 60);
        counts(5, 13, 4, 7, 15, 13);
        counts(5, 13, 4, 9, 17, 13);
        counts(5, 13, 0, 7, 13, 13);
        counts(5, 13, 1, 7, 14, 13);
        counts(5, 13, 1, 8, 13, 13);
        counts(5, 13, 9, 5679, 22, 13);
        OpensAtNine x = gateOf(2, 1, 5, 13, 4);
        int[] first = {1, 5, 13, 4, 0, 13, 13};
        for (int what = 0; what < 7; what++) due("told(0, " + what + ")", x.told(0, what), first[what]);
        due("put(0)", x.put(0), 0);
        due("told(0, 4)", x.told(0, 4), 1);
        due("told(0, 5)", x.told(0, 5), 13 + 13 % 5);
        due("told(0, 7)", x.told(0, 7), -7);
        due("told(0, -1)", x.told(0, -1), -7);
        due("told(1, 0)", x.told(1, 0), -5);
        due("told(-1, 0)", x.told(-1, 0), -5);
        due("told(1, 9)", x.told(1, 9), -5);
        due("told(7, 0)", x.told(7, 0), -5);
    }

    private static void put() {
        promise = "13 put";
        OpensAtNine x = gateOf(2, 0, 0, 4, 0, 0, 0, 5, 0, 0, 0, 9, 0, 1, 0, 30, 0);
        due("put(0)", x.put(0), 0);
        due("count(1)", x.count(1), 4);
        due("count(2)", x.count(2), 1);
        due("count(4)", x.count(4), 0);
        due("put(0)", x.put(0), STATE);
        due("put(1)", x.put(1), 1);
        due("count(1)", x.count(1), 9);
        due("count(2)", x.count(2), 2);
        due("count(4)", x.count(4), 1);
        due("put(2)", x.put(2), STATE);
        due("put(4)", x.put(4), -5);
        due("put(-1)", x.put(-1), -5);
        due("told(2, 4)", x.told(2, 4), 0);
        x.set(1, 9990);
        x.set(2, 99);
        due("put(3)", x.put(3), 1);
        due("count(1)", x.count(1), 9999);
        due("count(2)", x.count(2), 99);
        due("count(4)", x.count(4), 3);
        x.stand(0, 0);
        due("put(2)", x.put(2), 1);
        due("count(1)", x.count(1), 9999);
    }

    private static void putByALaw() {
        promise = "13 put, by a law";
        OpensAtNine x = gateOf(3, 2, 1, 2, 0, 2, 0, 1, 0, 0, 0, 1, 0);
        x.set(1, 30);
        x.set(2, 8);
        lawOf(x, "opens sum=44 and rest=8 and value=14 and minute=8 and coins=1 and who=2;worth value;haste value;");
        due("put(0)", x.put(0), 1);
        due("count(4)", x.count(4), 4);
        due("worth(2)", x.worth(2), 0);
        OpensAtNine y = gateOf(1, 0, 4, 30, 9);
        y.set(1, 9998);
        lawOf(y, "opens sum=9999 and value=429;worth 0;haste 0;");
        due("put(0), at most", y.put(0), 1);
        OpensAtNine z = gateOf(1, 0, 0, 4, 0);
        z.set(2, 99);
        lawOf(z, "opens minute=99;worth 0;haste 0;");
        due("put(0), the last minute", z.put(0), 1);
    }

    private static void worth() {
        promise = "14 worth";
        OpensAtNine x = gateOf(2, 1, 0, 1, 0, 1, 0, 1, 0);
        x.set(2, 7);
        due("worth(0)", x.worth(0), -7);
        x.stand(0, 1);
        due("worth(0)", x.worth(0), 13);
        due("worth(1)", x.worth(1), -7);
        due("worth(2)", x.worth(2), -100000);
        due("worth(-1)", x.worth(-1), -100000);
        lawOf(x, "opens 0;worth 50+10*who+coins;haste value+sum+rest+10*who+coins;");
        x.set(1, 11);
        x.stand(1, 1);
        due("worth(0)", x.worth(0), 50 - 13);
        due("worth(1)", x.worth(1), 62 - 25);
        lawOf(x, "opens 0;worth -5;haste -5;");
        due("worth(0), least", x.worth(0), 0);
        lawOf(x, "opens 0;worth 1000;haste 0;");
        due("worth(0), most", x.worth(0), 99);
        lawOf(x, "opens 0;worth 0;haste 1000;");
        due("worth(0), haste most", x.worth(0), -99);
    }

    // ---- ways in

    private static void gangIs(OpensAtNine x, int set, int cost, int many, int digits) {
        due("gang(" + set + ", 0)", x.gang(set, 0), cost);
        due("gang(" + set + ", 1)", x.gang(set, 1), many);
        due("gang(" + set + ", 2)", x.gang(set, 2), digits);
    }

    private static void gang() {
        promise = "15 gang";
        // 4 and 5 cost 9, and so does the seven alone, which comes behind; so do 5 and 4
        OpensAtNine x = gateOf(2, 0, 0, 4, 0, 0, 0, 5, 0, 0, 1, 9, 0, 0, 0, 18, 0);
        gangIs(x, 1, 9, 2, 12);
        gangIs(x, 2, -1, -1, -1);
        gangIs(x, 3, -1, -1, -1);
        x.sell(0, 1);
        gangIs(x, 1, 9, 1, 3);
        x.put(2);
        gangIs(x, 1, 0, 0, 0);
        gangIs(x, 3, -1, -1, -1);
        x.stand(1, 1);
        gangIs(x, 2, 0, 0, 0);
        gangIs(x, 3, 0, 0, 0);
        due("gang(0, 0)", x.gang(0, 0), -5);
        due("gang(4, 0)", x.gang(4, 0), -5);
        due("gang(5, 0)", x.gang(5, 0), -5);
        due("gang(-1, 0)", x.gang(-1, 0), -5);
        due("gang(0, 9)", x.gang(0, 9), -5);
        due("gang(1, 3)", x.gang(1, 3), -7);
        due("gang(1, -1)", x.gang(1, -1), -7);
        due("nobody's", new OpensAtNine().gang(1, 0), -5);
        due("count(1)", x.count(1), 63);
        due("count(2)", x.count(2), 1);
        // what costs less and comes behind wins: 9 for 9, or a button of 27 at an odd sum for 9 less 1
        OpensAtNine y = gateOf(1, 0, 0, 9, 0, 0, 3, 26, 0);
        y.set(1, 1);
        gangIs(y, 1, 8, 1, 2);
        due("no way, of -7", gateOf(1).gang(1, 3), -7);
    }

    private static void gangByOthers() {
        promise = "15 gang, of several";
        // one's own coins are no use to others outside the gang; in the gang one prepares for the other
        OpensAtNine x = gateOf(2, 0, 0, 4, 0, 1, 0, 5, 0, 0, 0, 9, 0, 1, 0, 27, 0);
        gangIs(x, 1, 9, 1, 3);
        gangIs(x, 2, 27, 1, 4);
        gangIs(x, 3, 18, 3, 123);
        // one inside by then puts no more in
        OpensAtNine y = gateOf(2, 0, 0, 9, 0, 0, 0, 1, 0, 1, 0, 8, 0);
        gangIs(y, 1, 9, 1, 1);
        gangIs(y, 2, -1, -1, -1);
        gangIs(y, 3, 18, 3, 231);
        // all seven, in an order that the law alone wants
        OpensAtNine z = gateOf(1, 0, 0, 1, 0, 0, 0, 1, 0, 0, 0, 1, 0, 0, 0, 1, 0, 0, 0, 1, 0, 0, 0, 1, 0, 0, 0, 2, 0);
        lawOf(z, "opens minute=6 and value=2;worth 9;haste 0;");
        gangIs(z, 1, 8, 7, 1234567);
        lawOf(z, "opens coins=0 and value=1;worth 9;haste 0;");
        gangIs(z, 1, 8, 7, 1234576);
        lawOf(z, "opens minute=2;worth 9;haste 0;");
        z.set(2, 1);
        gangIs(z, 1, 2, 2, 12);
    }

    private static void spare() {
        promise = "16 spare";
        OpensAtNine x = gateOf(2, 0, 0, 4, 0, 1, 0, 5, 0, 0, 0, 9, 0, 1, 0, 27, 0);
        // alone 9 and 27, behind one another as dear; both as a gang 18
        due("spare(0, 1)", x.spare(0, 1), 18);
        due("spare(1, 0)", x.spare(1, 0), 18);
        due("spare(0, 0)", x.spare(0, 0), -100000);
        due("spare(0, 2)", x.spare(0, 2), -100000);
        due("spare(2, 0)", x.spare(2, 0), -100000);
        due("spare(-1, 0)", x.spare(-1, 0), -100000);
        due("spare(0, -1)", x.spare(0, -1), -100000);
        due("count(1)", x.count(1), 0);
        // what the first one leaves behind, the second one goes on from: 4 and 5 against 18
        OpensAtNine y = gateOf(2, 0, 0, 4, 0, 1, 0, 5, 0, 1, 0, 9, 0);
        lawOf(y, "opens sum=4 or sum=9;worth 9;haste 0;");
        due("spare(0, 1)", y.spare(0, 1), 0);
        due("spare(1, 0)", y.spare(1, 0), -1);
        y.stand(0, 1);
        due("spare(0, 1), one inside", y.spare(0, 1), 0);
        due("spare(1, 0), one inside", y.spare(1, 0), 0);
        // the first one's cheapest is 4, behind which there is none; the gang goes by 6
        OpensAtNine z = gateOf(2, 0, 0, 4, 0, 0, 0, 6, 0, 1, 0, 5, 0);
        lawOf(z, "opens sum=4 or sum=6 or sum=11;worth 9;haste 0;");
        due("gang(3, 0)", z.gang(3, 0), 11);
        due("spare(0, 1), none behind the first", z.spare(0, 1), -1);
        due("none for one", gateOf(2, 0, 0, 9, 0).spare(0, 1), -1);
        due("none for the other", gateOf(2, 0, 0, 9, 0).spare(1, 0), -1);
        due("both inside", bothInside().spare(0, 1), 0);
    }

    private static OpensAtNine bothInside() {
        OpensAtNine x = gateOf(2);
        x.stand(0, 1);
        x.stand(1, 1);
        return x;
    }

    private static void reach() {
        promise = "17 reach";
        OpensAtNine x = gateOf(2, 0, 0, 4, 0, 0, 1, 2, 0, 1, 0, 1, 0);
        x.set(1, 10);
        // 10, 14, 24, 28 leave 1, 5, 6, 1
        due("reach(0)", x.reach(0), 1 << 1 | 1 << 5 | 1 << 6);
        due("reach(1)", x.reach(1), 1 << 1 | 1 << 2);
        x.stand(0, 1);
        due("reach(0), inside", x.reach(0), 1 << 1 | 1 << 5 | 1 << 6);
        x.stand(0, 0);
        x.put(0);
        due("reach(0), one spent", x.reach(0), 1 << 5 | 1 << 1);
        x.set(0, 20);
        due("reach(0), by 20", x.reach(0), 1 << 14 | 1 << 8);
        due("reach(2)", x.reach(2), -5);
        due("reach(-1)", x.reach(-1), -5);
        // any order: 1 then a button of 3 makes 4, the button first counts nothing
        OpensAtNine y = gateOf(1, 0, 3, 3, 0, 0, 0, 1, 0);
        due("reach(0), by orders", y.reach(0), 1 | 1 << 1 | 1 << 4);
        // going on behind 9, which opens, and up to 9999 at most
        OpensAtNine z = gateOf(1, 0, 0, 9, 0, 0, 0, 1, 0);
        due("reach(0), on and on", z.reach(0), 1 | 1 << 1);
        z.set(1, 9995);
        due("reach(0), at most", z.reach(0), 1 << 9995 % 9 | 1 << 9996 % 9 | 1);
        due("nothing to put in", gateOf(1).reach(0), 1);
        due("count(1)", z.count(1), 9995);
    }

    private static void keys() {
        promise = "18 keys";
        OpensAtNine x = gateOf(3, 0, 0, 9, 0, 1, 0, 18, 0, 0, 0, 8, 0, 2, 0, 27, 0, 2, 3, 5, 5, 0, 0, 9, 0);
        due("keys()", x.keys(), 1 | 2 | 8 | 16 | 32);
        x.stand(1, 1);
        due("keys(), one inside", x.keys(), 1 | 8 | 16 | 32);
        x.stand(2, 1);
        x.put(2);
        due("keys(), at 8", x.keys(), 0);
        x.set(1, 0);
        due("keys(), at 0", x.keys(), 1 | 32);
        x.put(0);
        due("keys(), all inside", x.keys(), 0);
        due("told(5, 4)", x.told(5, 4), 0);
    }

    private static void gifts() {
        promise = "19 gifts";
        OpensAtNine x = gateOf(3, 0, 0, 4, 0, 0, 0, 5, 0, 1, 0, 5, 0, 2, 0, 1, 0);
        // 4 and the other one's 5; 5 of the second and the first one's 4; not one's own 4 and 5
        due("gifts()", x.gifts(), 1 | 4);
        x.stand(1, 1);
        due("gifts(), one inside", x.gifts(), 0);
        x.stand(1, 0);
        x.put(0);
        due("gifts(), 4 is in", x.gifts(), 0);
        x.set(1, 0);
        due("gifts(), 4 is spent", x.gifts(), 0);
        // what opens is a gift as well, if the next opens
        OpensAtNine y = gateOf(2, 0, 0, 9, 0, 1, 0, 9, 0);
        due("gifts(), opening", y.gifts(), 3);
        y.set(1, 3);
        due("gifts(), not opening", y.gifts(), 0);
        // the minute goes on by what is put in first
        OpensAtNine z = gateOf(2, 0, 0, 1, 0, 1, 0, 2, 0);
        lawOf(z, "opens minute=1 and value=2;worth 0;haste 0;");
        due("gifts(), by the minute", z.gifts(), 1);
        due("count(2)", z.count(2), 0);
    }

    // ---- by turns

    private static void rest() {
        promise = "20 rest";
        OpensAtNine x = gateOf(2, 0, 0, 9, 0, 1, 0, 18, 0);
        due("rest(0, 0)", x.rest(0, 0), 0);
        due("rest(0, 1)", x.rest(0, 1), 20 - 1 - 9);
        due("rest(1, 1)", x.rest(1, 1), -1);
        due("rest(1, 2)", x.rest(1, 2), 20 - 2 - 18);
        due("rest(0, 2)", x.rest(0, 2), 20 - 2 - 9);
        due("rest(2, 1)", x.rest(2, 1), -100000);
        due("rest(-1, 1)", x.rest(-1, 1), -100000);
        due("rest(0, 7)", x.rest(0, 7), -100000);
        due("rest(0, -1)", x.rest(0, -1), -100000);
        x.set(2, 98);
        due("rest(0, 6), late", x.rest(0, 6), -79 - 9);
        x.stand(0, 1);
        due("rest(0, 6), inside", x.rest(0, 6), 20 - 99);
        due("count(2)", x.count(2), 98);
        // what was paid before these turns is no matter
        OpensAtNine y = gateOf(1, 0, 0, 5, 0);
        y.put(0);
        due("rest(0, 1), paid before", y.rest(0, 1), -2);
        due("rest(0, 0), nobody", new OpensAtNine().rest(0, 0), -100000);
    }

    private static void moves() {
        promise = "21 moves";
        OpensAtNine x = gateOf(2, 0, 0, 9, 0, 1, 0, 18, 0);
        due("moves(0)", x.moves(0), 0);
        due("moves(1)", x.moves(1), 1);
        due("moves(2)", x.moves(2), 12);
        // to be in early is worth no more, and to wait comes first
        due("moves(3)", x.moves(3), 21);
        due("moves(7)", x.moves(7), BAD);
        due("moves(-1)", x.moves(-1), BAD);
        due("nobody's", new OpensAtNine().moves(3), BAD);
        due("nobody's, 0", new OpensAtNine().moves(0), BAD);
        // the least coin of like ones
        OpensAtNine y = gateOf(1, 0, 0, 1, 0, 0, 0, 9, 0, 0, 0, 9, 0);
        due("moves(1)", y.moves(1), 2);
        due("moves(6)", y.moves(6), 2);
        // to be in is worth 20: a pair of 10 costs as much, and opens by 144
        due("moves(1), as dear as to wait", gateOf(1, 0, 4, 10, 4).moves(1), 0);
        due("moves(1), less dear", gateOf(1, 0, 4, 9, 9).moves(1), 1);
        due("moves(1), too dear", gateOf(1, 0, 0, 27, 0).moves(1), 0);
        // the first one's 4 would be the second one's chance: so 5 comes first, and 4 behind
        OpensAtNine z = gateOf(2, 0, 0, 4, 0, 0, 0, 5, 0, 1, 0, 5, 0);
        lawOf(z, "opens rest=0;worth 50;haste 0;");
        due("moves(1)", z.moves(1), 0);
        due("moves(2)", z.moves(2), 0);
        due("moves(3)", z.moves(3), 201);
        due("rest(0, 3)", z.rest(0, 3), 41);
        due("rest(1, 3)", z.rest(1, 3), 0);
        due("moves(6)", z.moves(6), 2010);
        // one alone must begin at once: six turns, six coins
        OpensAtNine one = gateOf(1, 0, 0, 1, 0, 0, 0, 1, 0, 0, 0, 1, 0, 0, 0, 1, 0, 0, 0, 1, 0, 0, 0, 2, 0, 0, 0, 1, 0);
        lawOf(one, "opens sum=7 and coins=1;worth 50;haste 0;");
        due("moves(6), all coins", one.moves(6), 123456);
        due("moves(5), not enough", one.moves(5), 0);
        due("rest(0, 6)", one.rest(0, 6), 43);
        lawOf(one, "opens sum=8 and coins=0;worth 50;haste 0;");
        due("moves(6), not enough", one.moves(6), 0);
        lawOf(one, "opens value=1 and coins=3 and sum=5;worth 50;haste 0;");
        due("moves(6), what is left out", one.moves(6), 1263);
    }

    private static void play() {
        promise = "22 play";
        OpensAtNine x = gateOf(2, 0, 0, 9, 0, 1, 0, 17, 0);
        due("play(0)", x.play(0), 0);
        due("count(2)", x.count(2), 0);
        due("moves(2)", x.moves(2), 10);
        due("play(2)", x.play(2), 1);
        due("count(1)", x.count(1), 9);
        due("count(2)", x.count(2), 2);
        due("count(4)", x.count(4), 1);
        due("told(0, 4)", x.told(0, 4), 1);
        due("told(1, 4)", x.told(1, 4), 0);
        due("play(7)", x.play(7), BAD);
        due("play(-1)", x.play(-1), BAD);
        due("nobody's", new OpensAtNine().play(3), BAD);
        x.stand(1, 1);
        due("play(6)", x.play(6), 2);
        due("count(2)", x.count(2), 8);
        OpensAtNine y = gateOf(2, 0, 0, 4, 0, 0, 0, 5, 0, 1, 0, 5, 0);
        lawOf(y, "opens rest=0;worth 50;haste 0;");
        due("play(3)", y.play(3), 1);
        due("told(0, 4)", y.told(0, 4), 1);
        due("told(1, 4)", y.told(1, 4), 1);
        due("told(2, 4)", y.told(2, 4), 0);
        due("count(1)", y.count(1), 9);
        due("count(2)", y.count(2), 3);
        x.set(2, 97);
        due("play(6), late", x.play(6), 2);
        due("count(2)", x.count(2), 99);
    }

    // ---- which number

    private static void which() {
        promise = "23 which";
        OpensAtNine x = new OpensAtNine();
        int all = 0;
        for (int m = 2; m <= 20; m++) all |= 1 << m;
        sheetOf(x, 0, 2);
        due("which(), no rows", x.which(0, 5), all);
        sheetOf(x, 0, 2, 12, 1);
        due("12 from 0", x.which(0, 0), 1 << 2 | 1 << 3 | 1 << 4 | 1 << 6 | 1 << 12);
        due("12 from 1", x.which(0, 1), 1 << 13);
        sheetOf(x, 0, 2, 12, 1, 6, 0);
        due("12, then 6 with a rest", x.which(0, 0), 1 << 4 | 1 << 12);
        sheetOf(x, 0, 2, 12, 1, 6, 77);
        due("anything else", x.which(0, 0), 1 << 4 | 1 << 12);
        sheetOf(x, 0, 2, 12, -1);
        due("12 with a rest", x.which(0, 0), all & ~(1 << 2 | 1 << 3 | 1 << 4 | 1 << 6 | 1 << 12));
        sheetOf(x, 1, 0, -14, 1);
        due("below 0", x.which(1, 0), 1 << 2 | 1 << 7 | 1 << 14);
        sheetOf(x, 1, 2, -7, 0, Integer.MAX_VALUE, 0, 8, 1);
        int sum = Integer.MAX_VALUE + 8 - 7;
        due("wrapping", x.which(1, 0), wrapped(sum));
        // 10011 is 3 * 47 * 71
        due("start 9999", x.which(0, 9999), all & ~(1 << 3));
        due("start 10000", x.which(0, 10000), -7);
        due("start -1", x.which(0, -1), -7);
        sheetOf(x, 2, 1, 1, 1, 1);
        due("odd", x.which(2, 0), BAD);
        due("odd, and start", x.which(2, -1), BAD);
        due("missing", x.which(3, -1), -11);
        due("sheet 4", x.which(4, -1), BAD);
        due("sheet -1", x.which(-1, 0), BAD);
        x.set(1, 500);
        x.set(0, 3);
        sheetOf(x, 0, 2, 12, 1);
        due("not by the gate's sum", x.which(0, 0), 1 << 2 | 1 << 3 | 1 << 4 | 1 << 6 | 1 << 12);
    }

    /** Numbers that leave no rest of a sum, nor of what is told ahead of it: -7 and 2147483640 leave one. */
    private static int wrapped(int sum) {
        int fit = 0;
        for (int m = 2; m <= 20; m++) {
            boolean first = Math.floorMod(-7, m) != 0, second = Math.floorMod(2147483640, m) != 0;
            if (first && second && Math.floorMod(sum, m) == 0) fit |= 1 << m;
        }
        return fit;
    }

    private static void next() {
        promise = "24 next";
        OpensAtNine x = new OpensAtNine();
        // of 2, 3, 4, 6, 12: by 2 more 2 alone leaves none, by 3 more 3; by 4 more 2 and 4, or else 3, 6, 12
        sheetOf(x, 0, 2, 12, 1);
        due("next(), 0", x.next(0, 0, 0), 4);
        due("next(), 1", x.next(0, 0, 1), 3);
        // of 13 alone: to bring 1 leaves it, as all do
        due("next(), one", x.next(0, 1, 0), 1);
        due("next(), one left", x.next(0, 1, 1), 1);
        sheetOf(x, 1, 2, 1, 1);
        due("next(), none", x.next(1, 0, 0), 1);
        due("next(), none left", x.next(1, 0, 1), 0);
        // of all 19 from 0 on: 12 splits them 5 to 14, 24 splits 6 to 13 (2, 3, 4, 6, 8, 12)
        sheetOf(x, 2, 0);
        due("next(), all", x.next(2, 0, 0), 24);
        due("next(), all left", x.next(2, 0, 1), 13);
        // from 59 on 1 more is the 60 that eight of them like (2, 3, 4, 5, 6, 10, 12, 15, 20)
        due("next(), from 59", x.next(2, 59, 0), 1);
        due("next(), from 59, left", x.next(2, 59, 1), 10);
        // 30 is the most that may be brought: 60 from 30 on, but not from 29 on
        due("next(), from 30", x.next(2, 30, 0), 30);
        due("next(), from 29", x.next(2, 29, 1) > 10 ? 1 : 0, 1);
        // not 3, 5, 9; of the others 2, 4, 6, 8, 12 leave none of 24, which is 15 more than 9
        sheetOf(x, 2, 0, 5, 0, 4, 0);
        due("next(), behind rows", x.next(2, 0, 0), 15);
        due("next(), behind rows, left", x.next(2, 0, 1), 11);
        due("what 2", x.next(0, 0, 2), -7);
        due("what -1", x.next(0, 0, -1), -7);
        due("start 10000", x.next(0, 10000, 0), -7);
        due("start -1", x.next(0, -1, 9), -7);
        due("missing", x.next(3, 0, 9), -11);
        due("sheet 4", x.next(4, 0, 0), BAD);
        sheetOf(x, 2, 1, 1);
        due("odd", x.next(2, 0, 9), BAD);
    }

    // ---- told mornings

    private static void judge() {
        promise = "25 judge";
        OpensAtNine x = gateOf(2, 0, 0, 4, 0, 0, 0, 5, 0, 0, 0, 9, 0, 1, 0, 9, 0);
        sheetOf(x, 0, 2, 0, 0, 1, 1, 3, 1);
        due("right", x.judge(0), -1);
        due("count(1)", x.count(1), 0);
        sheetOf(x, 0, 0, 0, 0, 1, 0);
        due("otherwise", x.judge(0), 1);
        sheetOf(x, 0, 0, 0, 1, 1, 1);
        due("otherwise at first", x.judge(0), 0);
        sheetOf(x, 0, 1, 0, 0, 1, 2);
        due("neither 1 nor 0", x.judge(0), 1);
        sheetOf(x, 0, 1, 0, 0, 0, 0);
        due("spent by then", x.judge(0), 1);
        sheetOf(x, 0, 1, 0, 0, 1, 1, 2, 1);
        due("inside by then", x.judge(0), 2);
        sheetOf(x, 0, 1, 0, 0, 4, 0);
        due("no such coin", x.judge(0), 1);
        sheetOf(x, 0, 1, -1, 0);
        due("no such coin, -1", x.judge(0), 0);
        sheetOf(x, 0, 0);
        due("no rows", x.judge(0), -1);
        x.put(0);
        sheetOf(x, 0, 0, 0, 0);
        due("spent", x.judge(0), 0);
        sheetOf(x, 0, 0, 1, 1);
        due("from now on", x.judge(0), -1);
        x.stand(0, 1);
        due("inside", x.judge(0), 0);
        sheetOf(x, 0, 0, 1, 1, 1);
        due("odd", x.judge(0), BAD);
        due("missing", x.judge(1), -11);
        due("sheet 4", x.judge(4), BAD);
        due("sheet -1", x.judge(-1), BAD);
    }

    private static void laws() {
        promise = "26 laws";
        OpensAtNine x = gateOf(2, 0, 0, 4, 0, 0, 0, 5, 0, 1, 0, 1, 0);
        textOf(x, "opens 1;worth 0;haste 0;");
        textOf(x, "opens value=5;worth 0;haste 0;");
        textOf(x, "opens 0;worth 0;haste 0;");
        sheetOf(x, 0, 2, 0, 0, 1, 1);
        due("9, or 5", x.laws(0), 1 | 4);
        sheetOf(x, 0, 2, 2, 1, 0, 1);
        due("always", x.laws(0), 2);
        sheetOf(x, 0, 2, 2, 0, 0, 0);
        due("never so far", x.laws(0), 1 | 4 | 8);
        sheetOf(x, 0, 2, 3, 0);
        due("no such coin", x.laws(0), 0);
        x.force(3);
        sheetOf(x, 0, 2);
        due("no rows", x.laws(0), 15);
        due("count(7)", x.count(7), 3);
        sheetOf(x, 0, 2, 0);
        due("odd", x.laws(0), BAD);
        due("missing", x.laws(1), -11);
        due("sheet 4", x.laws(4), BAD);
    }

    private static void numbers() {
        promise = "27 numbers";
        OpensAtNine x = gateOf(2, 0, 0, 8, 0, 0, 0, 12, 0, 1, 0, 10, 0);
        sheetOf(x, 0, 2, 0, 0, 1, 1);
        due("20, not 8", x.numbers(0), 1 << 5 | 1 << 10 | 1 << 20);
        sheetOf(x, 0, 2, 0, 1, 2, 0);
        due("8, not 18", x.numbers(0), 1 << 4 | 1 << 8);
        sheetOf(x, 0, 2, 0, 1, 1, 0);
        due("inside by then", x.numbers(0), 0);
        sheetOf(x, 0, 2);
        due("no rows", x.numbers(0), (1 << 21) - 4);
        due("count(0)", x.count(0), 9);
        sheetOf(x, 0, 2, 0);
        due("odd", x.numbers(0), BAD);
        due("missing", x.numbers(1), -11);
        due("sheet 4", x.numbers(4), BAD);
        x.force(textOf(x, "opens value=8;worth 0;haste 0;"));
        sheetOf(x, 0, 2, 0, 1);
        due("by the law", x.numbers(0), (1 << 21) - 4);
    }

    private static void film() {
        promise = "28 film";
        OpensAtNine x = gateOf(2, 0, 0, 4, 0, 1, 0, 7, 0, 0, 0, 7, 0, 0, 0, 1, 0, 1, 0, 9, 0, 1, 0, 1, 0);
        x.sheet(0, 0, 40);
        // 4, 11, 18 opens for the first, whose next stays; 27 opens for the second, whose next stays
        due("film(0)", x.film(0), 4);
        int[] rows = {0, 0, 1, 0, 2, 1, 4, 1};
        for (int i = 0; i < rows.length; i++) due("place " + i, holds(x, 0, i, rows[i]) ? 1 : 0, 1);
        due("cell(0, 8)", x.cell(0, 8, 0), -12);
        due("judge(0)", x.judge(0), -1);
        x.cell(0, 7, 0);
        due("judge(0), otherwise", x.judge(0), 3);
        x.cell(0, 7, 300);
        due("ints", holds(x, 0, 7, 300) ? 1 : 0, 1);
        due("count(1)", x.count(1), 0);
        due("count(4)", x.count(4), 0);
        x.put(0);
        x.stand(1, 1);
        due("film(1), from now on", x.film(1), 2);
        int[] later = {2, 0, 3, 0};
        for (int i = 0; i < later.length; i++) due("place " + i, holds(x, 1, i, later[i]) ? 1 : 0, 1);
        due("film(4)", x.film(4), BAD);
        due("film(-1)", x.film(-1), BAD);
        OpensAtNine y = gateOf(1, 0, 0, 1, 0, 0, 0, 1, 0, 0, 0, 1, 0, 0, 0, 1, 0, 0, 0, 1, 0, 0, 0, 1, 0, 0, 0, 1, 0);
        due("film(3), all seven", y.film(3), 7);
        due("judge(3)", y.judge(3), -1);
        due("cell(3, 13)", y.cell(3, 13, 1), 1);
        due("cell(3, 14)", y.cell(3, 14, 1), -12);
        due("film(3), nobody", new OpensAtNine().film(3), 0);
    }

    // ---- mornings by lot

    /** Told anew from the lots alone, for one who has coins of 1 and a number that they come to late. */
    private static int lotsMeet(int seed, int coins) {
        long lot = seed + 1;
        int met = 0;
        for (int k = 0; k < 14; k++) {
            lot = lot * 48271 % 2147483647;
            met |= 1 << (int) (lot % coins);
        }
        return Integer.bitCount(met);
    }

    private static void drawn() {
        promise = "29 drawn";
        int[] seven = {0, 0, 1, 0, 0, 0, 1, 0, 0, 0, 1, 0, 0, 0, 1, 0, 0, 0, 1, 0, 0, 0, 1, 0, 0, 0, 1, 0};
        for (int number = 2; number <= 7; number++) {
            OpensAtNine x = gateOf(1, seven);
            x.set(0, number);
            for (int seed = 0; seed < 60; seed++) {
                due("drawn(" + seed + ")", x.drawn(seed), lotsMeet(seed, 7) >= number ? 1 : 0);
            }
            due("drawn(99999)", x.drawn(99999), lotsMeet(99999, 7) >= number ? 1 : 0);
            due("count(1)", x.count(1), 0);
        }
        // of seed 0 the lots are 48271, 182605794: coin 6, then coin 0
        int[] unlike = {0, 0, 1, 0, 0, 0, 2, 0, 0, 0, 3, 0, 0, 0, 4, 0, 0, 0, 5, 0, 0, 0, 6, 0, 0, 0, 7, 0};
        for (int value = 1; value <= 7; value++) {
            OpensAtNine y = gateOf(1, unlike);
            lawOf(y, "opens minute=0 and value=" + value + ";worth 0;haste 0;");
            due("drawn(0), the first one", y.drawn(0), value == 7 ? 1 : 0);
            lawOf(y, "opens minute=1 and value=" + value + ";worth 0;haste 0;");
            due("drawn(0), the second one", y.drawn(0), value == 1 ? 1 : 0);
        }
        OpensAtNine z = gateOf(2, 0, 0, 9, 0);
        due("drawn(), who is inside already", insideToo(z).drawn(5), 2);
        due("drawn(), no coins", gateOf(2).drawn(5), 0);
        due("drawn(), no coins, inside", bothInside().drawn(5), 2);
        due("drawn(-1)", z.drawn(-1), BAD);
        due("drawn(100000)", z.drawn(100000), BAD);
    }

    private static OpensAtNine insideToo(OpensAtNine x) {
        x.stand(1, 1);
        return x;
    }

    private static void mean() {
        promise = "30 mean";
        OpensAtNine x = gateOf(2, 0, 0, 1, 0, 0, 0, 1, 0, 0, 0, 1, 0, 0, 0, 1, 0, 0, 0, 1, 0, 0, 0, 1, 0);
        x.set(0, 6);
        for (int seeds = 1; seeds <= 40; seeds++) {
            int all = 0;
            for (int k = 0; k < seeds; k++) all += x.drawn(300 + k);
            long above = x.mean(300, seeds, 0), below = x.mean(300, seeds, 1);
            due("the mean of " + seeds, above * seeds, below * all);
            for (int d = 2; d <= 40; d++) due("lowest terms", above % d == 0 && below % d == 0 ? 1 : 0, 0);
            due("below the line", below > 0 && below <= seeds ? 1 : 0, 1);
        }
        due("none inside", gateOf(1).mean(7, 12, 0), 0);
        due("none inside, below", gateOf(1).mean(7, 12, 1), 1);
        due("two inside", bothInside().mean(7, 12, 0), 2);
        due("two inside, below", bothInside().mean(7, 12, 1), 1);
        due("seed 99999", bothInside().mean(99999, 1, 0), 2);
        due("seed 0", bothInside().mean(0, 40, 0), 2);
        due("seed -1", x.mean(-1, 1, 0), OpensAtNine.NO);
        due("seed 100000", x.mean(100000, 1, 0), OpensAtNine.NO);
        due("seeds 0", x.mean(0, 0, 0), OpensAtNine.NO);
        due("seeds 41", x.mean(0, 41, 0), OpensAtNine.NO);
        due("part 2", x.mean(0, 1, 2), OpensAtNine.NO);
        due("part -1", x.mean(0, 1, -1), OpensAtNine.NO);
        due("NO", OpensAtNine.NO, Long.MIN_VALUE / 2);
    }

    private static void image() {
        promise = "31 image, 32 back";
        OpensAtNine x = gateOf(2, 0, 0, 9, 0, 1, 5, 7, 3);
        due("back()", x.back(), STATE);
        x.set(0, 9);
        x.set(1, 27);
        x.set(2, 5);
        x.put(0);
        due("image()", x.image(), 2);
        int[] kept = new int[8];
        for (int what = 0; what < 8; what++) kept[what] = x.count(what);
        x.come();
        x.coin(2, 0, 1, 0);
        x.sell(1, 2);
        x.put(1);
        x.stand(0, 0);
        x.stand(2, 1);
        x.set(0, 3);
        x.set(1, 1);
        x.set(2, 1);
        x.force(textOf(x, "opens 1;worth 7;haste 0;"));
        x.feed(4, 1, 2, 3, 4, 5);
        x.sheet(0, 2, 3);
        due("back()", x.back(), 2);
        for (int what = 0; what < 8; what++) {
            due("count(" + what + ")", x.count(what), what == 6 ? 2 : kept[what]);
        }
        due("count(8), kept by none", x.count(8), 4);
        due("cell(), kept by none", x.cell(0, 2, 1), 1);
        int[] coin = {1, 5, 7, 3, 0};
        for (int what = 0; what < 5; what++) due("told(1, " + what + ")", x.told(1, what), coin[what]);
        due("told(0, 4)", x.told(0, 4), 1);
        due("told(2, 0)", x.told(2, 0), -5);
        due("worth(2)", x.worth(2), -100000);
        due("coin() anew", x.coin(0, 1, 2, 3), 2);
        due("told(2, 4)", x.told(2, 4), 0);
        due("told(2, 1)", x.told(2, 1), 1);
        due("come() anew", x.come(), 2);
        due("count(4)", x.count(4), 1);
        due("back() again", x.back(), 2);
        due("count(3)", x.count(3), 2);
        due("image() anew", gateOf(1).image(), 0);
        x.set(1, 4444);
        x.image();
        x.set(1, 1);
        x.back();
        due("the later image", x.count(1), 4444);
    }

    // ---- the host

    private static void sheet() {
        promise = "33 sheet";
        OpensAtNine x = new OpensAtNine();
        for (int sort = 0; sort <= 2; sort++) {
            due("sheet(s, sort, 40)", x.sheet(sort, sort, 40), 1);
            due("cell(s, 39)", x.cell(sort, 39, 1), 1);
            due("cell(s, 40)", x.cell(sort, 40, 1), -12);
            due("sheet(s, sort, 2)", x.sheet(sort, sort, 2), 1);
            due("cell(s, 2)", x.cell(sort, 2, 1), -12);
            due("sheet(s, sort, 0)", x.sheet(sort, sort, 0), 1);
            due("cell(s, 0)", x.cell(sort, 0, 1), -12);
        }
        sheetOf(x, 0, 2, 12, 1, 4, 1);
        due("sheet(0, 2, 4)", x.sheet(0, 2, 4), 1);
        for (int i = 0; i < 4; i++) due("all 0", holds(x, 0, i, 0) ? 1 : 0, 1);
        due("sheet(0, -1, 0)", x.sheet(0, -1, 0), 1);
        due("cell(), missing", x.cell(0, 0, 0), -11);
        due("sheet(0, -1, 99)", x.sheet(0, -1, 99), 1);
        due("sheet(0, -1, -99)", x.sheet(0, -1, -99), 1);
        due("sheet(4)", x.sheet(4, 0, 1), BAD);
        due("sheet(-1)", x.sheet(-1, 0, 1), BAD);
        due("sheet(-1), missing", x.sheet(-1, -1, 1), BAD);
        due("sort 3", x.sheet(0, 3, 1), BAD);
        due("sort -2", x.sheet(0, -2, 1), BAD);
        due("sort 3, n -1", x.sheet(0, 3, -1), BAD);
        due("n 41", x.sheet(0, 0, 41), BAD);
        due("n -1", x.sheet(0, 0, -1), -14);
        due("still missing", x.cell(0, 0, 0), -11);
        sheetOf(x, 1, 1, 12, 1);
        due("n -1", x.sheet(1, 0, -1), -14);
        due("n 41", x.sheet(1, 0, 41), BAD);
        due("as it was", x.which(1, 0), 1 << 2 | 1 << 3 | 1 << 4 | 1 << 6 | 1 << 12);
    }

    /** What a cell of a sort tells of v, as which() sees it: a rest by 19 and by 20 of each v. */
    private static void wide(int sort, int v, int as) {
        OpensAtNine x = new OpensAtNine();
        sheetOf(x, 0, sort, v, 1);
        int want = 0;
        for (int m = 2; m <= 20; m++) if (Math.floorMod(as + 9, m) == 0) want |= 1 << m;
        due("cell of sort " + sort + " by " + v, x.which(0, 9), want);
    }

    private static void cell() {
        promise = "34 cell";
        int[] vs = {0, 1, 127, 128, 200, 255, 256, -1, -128, -129, 300, 32767, 32768, 40000, 65535, 65536, -32768,
            -32769, 123456789, Integer.MAX_VALUE - 20, Integer.MIN_VALUE};
        for (int v : vs) {
            wide(0, v, (byte) v);
            wide(1, v, (short) v);
            wide(2, v, v);
        }
        OpensAtNine x = new OpensAtNine();
        x.sheet(0, 2, 3);
        due("cell(0, 2)", x.cell(0, 2, 5), 1);
        due("cell(0, 3)", x.cell(0, 3, 5), -12);
        due("cell(0, -1)", x.cell(0, -1, 5), -12);
        due("cell(1, -1)", x.cell(1, -1, 5), -11);
        due("cell(4, 0)", x.cell(4, 0, 5), BAD);
        due("cell(-1, 0)", x.cell(-1, 0, 5), BAD);
    }

    private static void copy() {
        promise = "35 copy";
        OpensAtNine x = new OpensAtNine();
        sheetOf(x, 0, 2, 10, 20, 30, 40, 50);
        sheetOf(x, 1, 2, 1, 2, 3);
        due("copy()", x.copy(0, 1, 1, 0, 2), 2);
        int[] other = {20, 30, 3};
        for (int i = 0; i < 3; i++) due("other's " + i, holds(x, 1, i, other[i]) ? 1 : 0, 1);
        due("own, up", x.copy(0, 0, 0, 1, 4), 4);
        int[] up = {10, 10, 20, 30, 40};
        for (int i = 0; i < 5; i++) due("up " + i, holds(x, 0, i, up[i]) ? 1 : 0, 1);
        due("own, down", x.copy(0, 2, 0, 0, 3), 3);
        int[] down = {20, 30, 40, 30, 40};
        for (int i = 0; i < 5; i++) due("down " + i, holds(x, 0, i, down[i]) ? 1 : 0, 1);
        due("all", x.copy(0, 0, 0, 0, 5), 5);
        for (int i = 0; i < 5; i++) due("all " + i, holds(x, 0, i, down[i]) ? 1 : 0, 1);
        due("none, at the ends", x.copy(0, 5, 1, 3, 0), 0);
        due("none, outside", x.copy(0, 6, 1, 0, 0), -12);
        due("i", x.copy(0, 4, 1, 0, 2), -12);
        due("j", x.copy(0, 0, 1, 2, 2), -12);
        due("n", x.copy(0, 0, 1, 0, -1), -12);
        due("i -1", x.copy(0, -1, 1, 0, 1), -12);
        due("j -1", x.copy(0, 0, 1, -1, 1), -12);
        due("far i", x.copy(0, Integer.MAX_VALUE, 1, 0, 2), -12);
        due("far j", x.copy(0, 0, 1, Integer.MAX_VALUE, 2), -12);
        due("far n", x.copy(0, 1, 1, 1, Integer.MAX_VALUE), -12);
        due("unchanged", holds(x, 1, 2, 3) ? 1 : 0, 1);
        x.sheet(2, 1, 3);
        x.sheet(3, -1, 0);
        due("unlike", x.copy(0, 0, 2, 0, 1), -13);
        due("unlike, ahead of outside", x.copy(0, 9, 2, 0, -1), -13);
        due("missing", x.copy(3, 0, 2, 0, 1), -11);
        due("other missing", x.copy(0, 9, 3, 0, 1), -11);
        due("sheet 4", x.copy(4, 0, 3, 0, 1), BAD);
        due("other 4", x.copy(3, 0, 4, 0, 1), BAD);
        due("sheet -1", x.copy(-1, 0, 0, 0, 1), BAD);
        due("other -1", x.copy(0, 0, -1, 0, 1), BAD);
    }

    private static void coinsBy() {
        promise = "36 coinsBy";
        OpensAtNine x = gateOf(2);
        sheetOf(x, 0, 1, 9, 1, 4, 30, 9, 2, 0, 0, 0, 0, 5, 7, 3);
        due("coinsBy()", x.coinsBy(0, 1, 1, 3), 2);
        int[][] coins = {{1, 4, 30, 9}, {0, 5, 7, 3}};
        for (int c = 0; c < 2; c++) {
            for (int what = 0; what < 4; what++) due("told", x.told(c, what), coins[c][what]);
        }
        due("count(5)", x.count(5), 2);
        due("none", x.coinsBy(0, 1, 1, 0), 0);
        due("one too many", x.coinsBy(0, 1, 1, 4), -12);
        due("count(5), what stood ahead", x.count(5), 4);
        due("at 10", x.coinsBy(0, 1, 10, 1), -12);
        due("at -1", x.coinsBy(0, 1, -1, 1), -12);
        due("far", x.coinsBy(0, 1, Integer.MAX_VALUE, 7), -12);
        due("far below", x.coinsBy(0, 1, Integer.MIN_VALUE, 7), -12);
        due("at 9", x.coinsBy(0, 1, 9, 1), 1);
        sheetOf(x, 1, 0, 0, 0, 1, 1, 0, 0, 2, 2, 0, 0, 3, 3);
        due("full", x.coinsBy(1, 0, 0, 3), 2);
        due("count(5)", x.count(5), 7);
        due("full, outside", x.coinsBy(1, 0, 0, 4), -12);
        due("sort", x.coinsBy(1, 1, 0, 1), -13);
        due("sort, ahead of the place", x.coinsBy(1, 2, -1, 1), -13);
        due("missing", x.coinsBy(2, 2, -1, 1), -11);
        due("sheet 4", x.coinsBy(4, 0, 0, 1), BAD);
        due("sheet -1", x.coinsBy(-1, 0, 0, 1), BAD);
        due("sort 3", x.coinsBy(2, 3, 0, 1), BAD);
        due("sort -1", x.coinsBy(2, -1, 0, 1), BAD);
        due("n 8", x.coinsBy(2, 0, 0, 8), BAD);
        due("n -1", x.coinsBy(2, 0, 0, -1), BAD);
    }

    private static void taken() {
        promise = "37 taken";
        OpensAtNine x = gateOf(3, 1, 0, 1, 0, 1, 1, 1, 0, 1, 2, 1, 0, 1, 3, 1, 0, 1, 4, 1, 0, 1, 5, 1, 0);
        String[] is = {"0", "01", "02", "023", "014", "05"};
        for (int c = 0; c < 6; c++) {
            for (int kind = 0; kind <= 6; kind++) {
                boolean one = is[c].indexOf((char) ('0' + kind)) >= 0;
                due("taken(" + (4 + c) + ", " + kind + ")", x.taken(4 + c, kind), one ? c : -13);
            }
        }
        due("no seventh", x.taken(10, 0), -11);
        due("no seventh, 6", x.taken(10, 6), -11);
        for (int p = 0; p < 4; p++) due("outside", x.taken(p, 6), -11);
        x.stand(1, 1);
        x.stand(2, 1);
        due("taken(1, 6)", x.taken(1, 6), 6);
        due("taken(2, 6)", x.taken(2, 6), 0);
        due("taken(0, 6)", x.taken(0, 6), -11);
        due("taken(3, 6)", x.taken(3, 6), -11);
        for (int kind = 0; kind <= 5; kind++) due("one is no coin", x.taken(1, kind), -13);
        x.stand(1, 0);
        x.put(3);
        due("a spent one", x.taken(7, 3), -11);
        x.stand(1, 1);
        due("taken(1, 6), one spent", x.taken(1, 6), 5);
        due("i 11", x.taken(11, 0), -12);
        due("i -1", x.taken(-1, 6), -12);
        due("kind 7", x.taken(4, 7), BAD);
        due("kind -1", x.taken(4, -1), BAD);
        due("kind, ahead of i", x.taken(11, 7), BAD);
    }
}

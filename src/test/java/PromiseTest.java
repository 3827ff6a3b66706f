/** Each promise, in the order of the document: ordinary inputs, the edges that it names, wrong inputs. */
public final class PromiseTest {

    private static final Class<?> INDEX = IndexOutOfBoundsException.class;
    private static final Class<?> ARGUMENT = IllegalArgumentException.class;
    private static final Class<?> STATE = IllegalStateException.class;
    private static final int LOW = Integer.MIN_VALUE;
    private static final int HIGH = Integer.MAX_VALUE;

    private static int wrong = 0;
    private static int checks = 0;

    private interface Call {
        long answer();
    }

    private static void due(String what, long want, Call call) {
        checks++;
        String got;
        try {
            long answer = call.answer();
            if (answer == want) {
                return;
            }
            got = Long.toString(answer);
        } catch (RuntimeException e) {
            got = e.toString();
        }
        wrong++;
        System.out.println(what + " answered " + got + ", due is " + want);
    }

    private static void fails(String what, Class<?> want, Call call) {
        checks++;
        String got;
        try {
            got = "answered " + call.answer();
        } catch (RuntimeException e) {
            // What the library throws below the class is no answer, even if its name is the due one.
            StackTraceElement[] trace = e.getStackTrace();
            if (e.getClass() == want && trace.length > 0 && trace[0].getClassName().startsWith("Platterhouse")) {
                return;
            }
            got = "threw " + e;
        }
        wrong++;
        System.out.println(what + " " + got + ", due is " + want.getSimpleName());
    }

    private static long terms(Platterhouse x, int film, int[] t) {
        x.terms(film, t[0], t[1], t[2], t[3], t[4]);
        return 0;
    }

    private static long bit(boolean b) {
        return b ? 1 : 0;
    }

    /** A house with one hall, one film and a key to the end of time. */
    private static Platterhouse house(int rows, int seats, int length, int age, int price) {
        Platterhouse x = new Platterhouse();
        x.hall(rows, seats);
        x.film(length, age, price);
        x.key(0, 0, 0, 110000);
        return x;
    }

    /** The same with four more shows' room: halls 0 and 1, film 0, spread 0, no lamp in the way. */
    private static Platterhouse wide(int rows, int seats) {
        Platterhouse x = house(rows, seats, 30, 0, 100);
        x.hall(rows, seats);
        x.key(0, 1, 0, 110000);
        x.spread(0);
        x.lamp(0, 100000, true);
        x.lamp(1, 100000, true);
        return x;
    }

    private static void fillShow(Platterhouse x, int show, int rows, int seats, int age) {
        for (int row = 0; row < rows; row++) {
            for (int seat = 0; seat < seats; seat++) {
                x.sell(show, row, seat, age);
            }
        }
    }

    /** Leaves exactly `left` of the 400 tickets, with show 0 (PLANNED, hall 0, one row of 2) sold out. */
    private static Platterhouse nearlyOut(int left) {
        Platterhouse x = wide(1, 2);
        x.hall(6, 8);
        x.key(0, 2, 0, 110000);
        x.show(0, 0, 90000);
        x.sell(0, 0, 0, 30);
        x.sell(0, 0, 1, 30);
        int count = 2;
        int show = 0;
        while (count < 400 - left) {
            show = x.show(0, 2, 1200 + 100 * show);
            for (int i = 0; i < 48 && count < 400 - left; i++) {
                x.sell(show, i / 8, i % 8, 30);
                count++;
            }
        }
        return x;
    }

    private static void promise1() {
        Platterhouse x = new Platterhouse();
        for (int what = 0; what < 5; what++) {
            int w = what;
            due("1: all(" + what + ") of a new house", 0, () -> x.all(w));
        }
        fails("1: ofHall(0, 0) of a new house", INDEX, () -> x.ofHall(0, 0));
        fails("1: takings(0, 0) of a new house", INDEX, () -> x.takings(0, 0));
        due("1: the spread at first", 10, () -> x.spread(5));
    }

    private static void promise2() {
        Platterhouse x = new Platterhouse();
        int[][] bad = {{0, 1}, {7, 1}, {1, 0}, {1, 9}, {LOW, 1}, {HIGH, 1}, {1, LOW}, {1, HIGH}, {-1, -1}};
        for (int[] b : bad) {
            fails("2: hall(" + b[0] + ", " + b[1] + ")", ARGUMENT, () -> x.hall(b[0], b[1]));
        }
        due("2: first hall", 0, () -> x.hall(1, 1));
        due("2: second hall", 1, () -> x.hall(6, 8));
        due("2: third hall", 2, () -> x.hall(6, 1));
        due("2: fourth hall", 3, () -> x.hall(1, 8));
        due("2: its seats", 48, () -> x.ofHall(1, 0));
        fails("2: fifth hall", STATE, () -> x.hall(1, 1));
        fails("2: fifth hall, out of range", ARGUMENT, () -> x.hall(0, 1));
        fails("2: there is no fifth", INDEX, () -> x.ofHall(4, 0));
    }

    private static void promise3() {
        Platterhouse x = house(1, 1, 60, 0, 100);
        fails("3: no hall 1", INDEX, () -> x.lamp(1, 0, true));
        fails("3: no hall -1", INDEX, () -> x.lamp(-1, 5, true));
        fails("3: minutes 0", ARGUMENT, () -> x.lamp(0, 0, true));
        fails("3: minutes 100001", ARGUMENT, () -> x.lamp(0, 100001, true));
        fails("3: minutes lowest", ARGUMENT, () -> x.lamp(0, LOW, true));
        due("3: may burn at first", 5000, () -> x.ofHall(0, 2));
        due("3: lamp(0, 100000)", 0, () -> x.lamp(0, 100000, false));
        due("3: may burn then", 100000, () -> x.ofHall(0, 2));
        x.show(0, 0, 100);
        x.pass(160);
        due("3: burned 60", 60, () -> x.lamp(0, 1, false));
        due("3: burned 60 still", 60, () -> x.ofHall(0, 1));
        due("3: may burn 1", 1, () -> x.ofHall(0, 2));
        due("3: new one", 60, () -> x.lamp(0, 120, true));
        due("3: burned 0", 0, () -> x.ofHall(0, 1));
        x.show(0, 0, 200);
        x.pass(60);
        due("3: changed as it runs", 0, () -> x.lamp(0, 120, true));
        due("3: the running one counts whole", 4, () -> x.lamp(0, 119, false) + x.fits(0, 0, 300));
        due("3: and fits with 120", 0, () -> x.lamp(0, 120, false) + x.fits(0, 0, 300));
        x.pass(40);
        due("3: whole length when over", 60, () -> x.ofHall(0, 1));
    }

    private static void promise4() {
        Platterhouse x = new Platterhouse();
        int[][] bad = {{29, 0, 1}, {241, 0, 1}, {30, -1, 1}, {30, 19, 1}, {30, 0, 0}, {30, 0, 1000},
            {LOW, 0, 1}, {HIGH, 0, 1}, {30, LOW, 1}, {30, HIGH, 1}, {30, 0, LOW}, {30, 0, HIGH}};
        for (int[] b : bad) {
            fails("4: film(" + b[0] + ", " + b[1] + ", " + b[2] + ")", ARGUMENT, () -> x.film(b[0], b[1], b[2]));
        }
        due("4: first film", 0, () -> x.film(30, 0, 1));
        due("4: second film", 1, () -> x.film(240, 18, 999));
        for (int i = 2; i < 8; i++) {
            int want = i;
            due("4: film " + i, want, () -> x.film(100, 12, 50));
        }
        fails("4: ninth film", STATE, () -> x.film(100, 12, 50));
        fails("4: ninth film, out of range", ARGUMENT, () -> x.film(100, 12, 0));
        due("4: film 7", 0, () -> x.takings(7, 0));
        fails("4: no film 8", INDEX, () -> x.takings(8, 0));
    }

    private static void promise5() {
        Platterhouse x = house(1, 1, 30, 0, 100);
        fails("5: no film 1", INDEX, () -> terms(x, 1, new int[] {-1, 0, 0, 0, 0}));
        fails("5: no film -1", INDEX, () -> terms(x, -1, new int[] {0, 0, 0, 0, 0}));
        int[] most = {100, 100, 100, 100000, 100000};
        for (int i = 0; i < 5; i++) {
            int[] below = {1, 1, 1, 1, 1};
            int[] above = {1, 1, 1, 1, 1};
            below[i] = -1;
            above[i] = most[i] + 1;
            fails("5: argument " + i + " below", ARGUMENT, () -> terms(x, 0, below));
            fails("5: argument " + i + " above", ARGUMENT, () -> terms(x, 0, above));
        }
        x.show(0, 0, 1200);
        x.sell(0, 0, 0, 30);
        due("5: a refused call changed nothing", 50, () -> x.share(0, 0));
        due("5: all at most", 0, () -> terms(x, 0, most));
        due("5: all of it with the floor 100", 100, () -> x.share(0, 0));
        due("5: all at least", 0, () -> terms(x, 0, new int[] {0, 0, 0, 0, 0}));
        due("5: nothing then", 0, () -> x.share(0, 0));
    }

    private static void promise6() {
        Platterhouse x = new Platterhouse();
        x.hall(1, 1);
        x.film(60, 0, 1);
        fails("6: no film", INDEX, () -> x.key(1, 0, -1, 0));
        fails("6: no hall", INDEX, () -> x.key(0, 1, -1, 0));
        fails("6: film -1", INDEX, () -> x.key(-1, 0, 0, 1));
        fails("6: hall -1", INDEX, () -> x.key(0, -1, 0, 1));
        fails("6: from -1", ARGUMENT, () -> x.key(0, 0, -1, 5));
        fails("6: from 100001", ARGUMENT, () -> x.key(0, 0, 100001, 100002));
        fails("6: from highest", ARGUMENT, () -> x.key(0, 0, HIGH, LOW));
        fails("6: to is from", ARGUMENT, () -> x.key(0, 0, 7, 7));
        fails("6: to 110001", ARGUMENT, () -> x.key(0, 0, 7, 110001));
        due("6: the first", 0, () -> x.key(0, 0, 500, 620));
        due("6: a start before it", 1, () -> x.fits(0, 0, 499));
        due("6: a start at its first minute", 0, () -> x.fits(0, 0, 500));
        due("6: an end at its last minute", 0, () -> x.fits(0, 0, 560));
        due("6: an end behind it", 1, () -> x.fits(0, 0, 561));
        due("6: from 0", 1, () -> x.key(0, 0, 0, 1));
        due("6: two keys do not add up", 2, () -> x.key(0, 0, 620, 800));
        due("6: between the two", 1, () -> x.fits(0, 0, 580));
        due("6: from 100000 to 110000", 3, () -> x.key(0, 0, 100000, 110000));
        for (int i = 4; i < 30; i++) {
            int want = i;
            due("6: key " + i, want, () -> x.key(0, 0, 1, 2));
        }
        fails("6: key 30", STATE, () -> x.key(0, 0, 1, 2));
        fails("6: key 30, to out of range", ARGUMENT, () -> x.key(0, 0, 1, 1));
        x.hall(1, 1);
        x.film(60, 0, 1);
        due("6: not the other hall", 1, () -> x.fits(0, 1, 500));
        due("6: not the other film", 1, () -> x.fits(1, 0, 500));
    }

    private static void promise7() {
        Platterhouse x = wide(1, 1);
        fails("7: spread -1", ARGUMENT, () -> x.spread(-1));
        fails("7: spread 61", ARGUMENT, () -> x.spread(61));
        due("7: before, as told in wide()", 0, () -> x.spread(60));
        due("7: before", 60, () -> x.spread(25));
        x.show(0, 0, 500);
        due("7: 24 ahead", 3, () -> x.fits(0, 1, 476));
        due("7: 25 ahead", 0, () -> x.fits(0, 1, 475));
        due("7: 24 behind", 3, () -> x.fits(0, 1, 524));
        due("7: 25 behind", 0, () -> x.fits(0, 1, 525));
        x.spread(1);
        due("7: both at once, spread 1", 3, () -> x.fits(0, 1, 500));
        x.spread(0);
        due("7: both at once, spread 0", 0, () -> x.fits(0, 1, 500));
    }

    private static void promise8() {
        Platterhouse x = wide(1, 2);
        fails("8: no film", INDEX, () -> x.show(1, 0, 0));
        fails("8: no hall", INDEX, () -> x.show(0, 2, 0));
        fails("8: film -1", INDEX, () -> x.show(-1, 0, 5));
        fails("8: hall -1", INDEX, () -> x.show(0, -1, 5));
        fails("8: start now", ARGUMENT, () -> x.show(0, 0, 0));
        fails("8: start -1", ARGUMENT, () -> x.show(0, 0, -1));
        fails("8: start 100001", ARGUMENT, () -> x.show(0, 0, 100001));
        due("8: start 1", 0, () -> x.show(0, 0, 1));
        due("8: start 100000", 1, () -> x.show(0, 0, 100000));
        fails("8: taken", STATE, () -> x.show(0, 0, 50));
        due("8: right behind the pause", 2, () -> x.show(0, 0, 51));
        due("8: its state", Platterhouse.PLANNED, () -> x.ofShow(2, 3));
        for (int i = 3; i < 30; i++) {
            int want = i;
            due("8: show " + i, want, () -> x.show(0, 0, 51 + 50 * (want - 2)));
        }
        fails("8: show 30", STATE, () -> x.show(0, 0, 50000));
        fails("8: show 30, out of range", ARGUMENT, () -> x.show(0, 0, 0));
        due("8: it would fit", 0, () -> x.fits(0, 0, 50000));
        x.cancel(29);
        fails("8: cancelled ones count", STATE, () -> x.show(0, 0, 50000));
    }

    private static void promise9() {
        Platterhouse x = wide(1, 3);
        fails("9: no show", INDEX, () -> x.cancel(0));
        fails("9: no show -1", INDEX, () -> x.cancel(-1));
        x.show(0, 0, 1200);
        x.show(0, 1, 1200);
        fillShow(x, 1, 1, 3, 30);
        x.sell(0, 0, 0, 30);
        x.sell(0, 0, 1, 11);
        x.hold(0, 0, 2, 50);
        x.join(0, 40, false);
        x.giveBack(3);
        due("9: the seat went on", 5, () -> x.seat(0, 0, 0));
        x.join(0, 41, false);
        due("9: paid back, all together", 150, () -> x.cancel(0));
        for (int seat = 0; seat < 3; seat++) {
            int s = seat;
            due("9: free then, " + s, -1, () -> x.seat(0, 0, s));
        }
        int[] ofShow = {0, 0, 1200, Platterhouse.CANCELLED, 0, 0, 0, 0};
        for (int what = 0; what < 8; what++) {
            int w = what;
            due("9: ofShow(0, " + w + ")", ofShow[w], () -> x.ofShow(0, w));
        }
        due("9: given back", 1, () -> x.ofTicket(4, 5));
        due("9: paid for it", 0, () -> x.ofTicket(4, 4));
        due("9: no ticket for the line", 6, () -> x.all(2));
        due("9: its hold ended", 0, () -> x.all(3));
        fails("9: and can not be let go", STATE, () -> x.letGo(0));
        due("9: the other show's are paid", 300, () -> x.all(4));
        due("9: not given back", 0, () -> x.ofTicket(0, 5));
        fails("9: not twice", STATE, () -> x.cancel(0));
        fails("9: no ticket of it goes back", STATE, () -> x.giveBack(4));
        x.pass(1200);
        due("9: it does not run", Platterhouse.CANCELLED, () -> x.ofShow(0, 3));
        fails("9: RUNNING", STATE, () -> x.cancel(1));
        x.pass(30);
        fails("9: OVER", STATE, () -> x.cancel(1));
        due("9: its lamp has not burned", 0, () -> x.ofHall(0, 1));
    }

    private static void promise10() {
        Platterhouse x = wide(1, 3);
        fails("10: no show", INDEX, () -> x.breaks(0));
        x.show(0, 0, 1000);
        x.show(0, 1, 1000);
        fails("10: PLANNED", STATE, () -> x.breaks(0));
        for (int show = 0; show < 2; show++) {
            x.sell(show, 0, 0, 30);
            x.sell(show, 0, 1, 11);
        }
        x.giveBack(0);
        x.sell(0, 0, 2, 30);
        x.pass(1019);
        due("10: 19 of 30: all", 75 + 37, () -> x.breaks(0));
        due("10: paid then", 0, () -> x.ofShow(0, 7));
        due("10: its state", Platterhouse.BROKEN, () -> x.ofShow(0, 3));
        due("10: not given back", 0, () -> x.ofTicket(1, 5));
        due("10: still given back", 1, () -> x.ofTicket(0, 5));
        due("10: its seat stays sold", 1, () -> x.seat(0, 0, 1));
        due("10: how many are sold", 2, () -> x.ofShow(0, 4));
        due("10: burned", 19, () -> x.ofHall(0, 1));
        due("10: none runs there", -1, () -> x.ofHall(0, 3));
        due("10: the hall is free again", 0, () -> x.fits(0, 0, 1020));
        fails("10: BROKEN", STATE, () -> x.breaks(0));
        fails("10: it is not planned", STATE, () -> x.giveBack(1));
        x.pass(1);
        due("10: 20 of 30: half, rounded down", 37 + 18, () -> x.breaks(1));
        due("10: less by that", 38, () -> x.ofTicket(2, 4));
        due("10: less by that, 37", 19, () -> x.ofTicket(3, 4));
        due("10: all of it", 57, () -> x.ofShow(1, 7));
        x.pass(100);
        due("10: it is not over later", Platterhouse.BROKEN, () -> x.ofShow(1, 3));
        due("10: nor burns more", 20, () -> x.ofHall(1, 1));
        x.show(0, 0, 1300);
        x.cancel(2);
        fails("10: CANCELLED", STATE, () -> x.breaks(2));
        x.show(0, 0, 1400);
        x.sell(3, 0, 0, 30);
        x.pass(280);
        due("10: at its start: all", 100, () -> x.breaks(3));
        due("10: nothing burned", 19, () -> x.ofHall(0, 1));
        x.show(0, 0, 1500);
        x.pass(130);
        fails("10: OVER", STATE, () -> x.breaks(4));

        Platterhouse y = house(1, 1, 30, 0, 100);
        y.show(0, 0, 1200);
        y.sell(0, 0, 0, 30);
        y.pass(1229);
        due("10: ticket 0", 50, () -> y.breaks(0));
    }

    private static void promise11() {
        Platterhouse x = wide(1, 1);
        fails("11: 0", ARGUMENT, () -> x.pass(0));
        fails("11: -1", ARGUMENT, () -> x.pass(-1));
        fails("11: 5001", ARGUMENT, () -> x.pass(5001));
        fails("11: highest", ARGUMENT, () -> x.pass(HIGH));
        due("11: 1", 1, () -> x.pass(1));
        x.show(0, 0, 50);
        x.show(0, 0, 100);
        x.pass(48);
        due("11: a minute before", Platterhouse.PLANNED, () -> x.ofShow(0, 3));
        x.pass(1);
        due("11: from its start on", Platterhouse.RUNNING, () -> x.ofShow(0, 3));
        x.pass(29);
        due("11: until its end", Platterhouse.RUNNING, () -> x.ofShow(0, 3));
        x.pass(1);
        due("11: from its end on", Platterhouse.OVER, () -> x.ofShow(0, 3));
        due("11: 5000", 5080, () -> x.pass(5000));
        due("11: over as it was leapt over", Platterhouse.OVER, () -> x.ofShow(1, 3));
        due("11: both burned", 60, () -> x.ofHall(0, 1));
        x.show(0, 0, 100000);
        for (int i = 0; i < 18; i++) {
            x.pass(5000);
        }
        due("11: near the end", 95080, () -> x.all(0));
        fails("11: beyond the end", STATE, () -> x.pass(4921));
        due("11: which changed nothing", 95080, () -> x.all(0));
        due("11: to the end", 100000, () -> x.pass(4920));
        fails("11: at the end", STATE, () -> x.pass(1));
        fails("11: at the end, out of range", ARGUMENT, () -> x.pass(0));
        due("11: a show at the end runs", Platterhouse.RUNNING, () -> x.ofShow(2, 3));
        fails("11: no start is above now", ARGUMENT, () -> x.fits(0, 0, 100000));
        fails("11: no from is above now", ARGUMENT, () -> x.first(0, 0, 100000));
    }

    /** In one minute: holds by their numbers, then shows are over, then shows run and lose their lines. */
    private static void orderInAMinute() {
        Platterhouse x = wide(1, 2);
        x.show(0, 1, 100);
        x.show(0, 0, 100);
        x.hold(1, 0, 0, 5000);
        x.hold(0, 0, 1, 100);
        x.hold(0, 0, 0, 99);
        x.hold(1, 0, 1, 100);
        x.join(0, 20, false);
        x.join(0, 21, false);
        x.join(1, 22, false);
        x.join(1, 23, false);
        x.join(1, 24, false);
        x.pass(99);
        due("11: the earlier time first", 20, () -> x.ofTicket(x.seat(0, 0, 0), 3));
        due("11: only that one", 1, () -> x.all(2));
        x.pass(1);
        due("11: by numbers, hold 0", 22, () -> x.ofTicket(1, 3));
        due("11: by numbers, hold 1", 21, () -> x.ofTicket(2, 3));
        due("11: by numbers, hold 3", 23, () -> x.ofTicket(3, 3));
        due("11: hold 0 had show 1", 1, () -> x.seat(1, 0, 0));
        due("11: no hold is left", 0, () -> x.all(3));
        due("11: then it runs", Platterhouse.RUNNING, () -> x.ofShow(1, 3));
        due("11: and its line is gone", 0, () -> x.ofShow(1, 6));
        due("11: and it has four tickets with the other", 4, () -> x.all(2));
    }

    private static void promise12() {
        Platterhouse x = wide(2, 3);
        fails("12: no show", INDEX, () -> x.hold(0, 0, 0, 0));
        x.show(0, 0, 200);
        int[][] bad = {{-1, 0}, {2, 0}, {0, -1}, {0, 3}, {LOW, 0}, {0, HIGH}};
        for (int[] b : bad) {
            fails("12: seat " + b[0] + ", " + b[1], INDEX, () -> x.hold(0, b[0], b[1], 0));
        }
        fails("12: show -1", INDEX, () -> x.hold(-1, 0, 0, 1));
        fails("12: minutes 0", ARGUMENT, () -> x.hold(0, 0, 0, 0));
        fails("12: minutes 5001", ARGUMENT, () -> x.hold(0, 0, 0, 5001));
        due("12: for 1", 0, () -> x.hold(0, 1, 2, 1));
        due("12: for 5000", 1, () -> x.hold(0, 0, 0, 5000));
        fails("12: held", STATE, () -> x.hold(0, 1, 2, 1));
        fails("12: held, minutes out of range", ARGUMENT, () -> x.hold(0, 1, 2, 0));
        due("12: the hold there", 1000, () -> x.seat(0, 1, 2));
        due("12: the other there", 1001, () -> x.seat(0, 0, 0));
        x.sell(0, 0, 1, 30);
        fails("12: sold", STATE, () -> x.hold(0, 0, 1, 1));
        x.pass(1);
        due("12: over", -1, () -> x.seat(0, 1, 2));
        due("12: not over", 1001, () -> x.seat(0, 0, 0));
        x.pass(198);
        due("12: not over ahead of the start", 1001, () -> x.seat(0, 0, 0));
        x.pass(1);
        due("12: over at the start", -1, () -> x.seat(0, 0, 0));
        fails("12: RUNNING", STATE, () -> x.hold(0, 0, 0, 1));
        x.show(0, 0, 10000);
        for (int i = 2; i < 100; i++) {
            int want = i;
            due("12: hold " + i, want, () -> x.hold(1, 0, 0, 1));
            x.letGo(i);
        }
        fails("12: hold 100", STATE, () -> x.hold(1, 0, 0, 1));
        fails("12: no hold 100", INDEX, () -> x.letGo(100));
        due("12: none is open", 0, () -> x.all(3));
    }

    private static void promise13() {
        Platterhouse x = wide(1, 1);
        fails("13: no hold", INDEX, () -> x.letGo(0));
        fails("13: no hold -1", INDEX, () -> x.letGo(-1));
        x.show(0, 0, 1200);
        x.hold(0, 0, 0, 10);
        due("13: to nobody", -1, () -> x.letGo(0));
        due("13: free then", -1, () -> x.seat(0, 0, 0));
        fails("13: let go before", STATE, () -> x.letGo(0));
        x.hold(0, 0, 0, 10);
        x.pass(10);
        fails("13: its time is over", STATE, () -> x.letGo(1));
        x.hold(0, 0, 0, 10);
        x.join(0, 11, false);
        x.join(0, 30, true);
        due("13: to the line", 0, () -> x.letGo(2));
        due("13: to the member", 30, () -> x.ofTicket(0, 3));
        due("13: sold then", 0, () -> x.seat(0, 0, 0));
        due("13: for the price", 100, () -> x.ofTicket(0, 4));
        due("13: one is in the line", 1, () -> x.ofShow(0, 6));
        x.giveBack(0);
        due("13: to the next one", 11, () -> x.ofTicket(1, 3));
        due("13: for half the price", 50, () -> x.ofTicket(1, 4));
        x.giveBack(1);
        x.hold(0, 0, 0, 10);
        x.buy(3, 30);
        fails("13: bought", STATE, () -> x.letGo(3));
    }

    private static void promise14() {
        Platterhouse x = house(1, 2, 30, 12, 101);
        fails("14: no hold", INDEX, () -> x.buy(0, -1));
        fails("14: no hold -1", INDEX, () -> x.buy(-1, 30));
        x.show(0, 0, 1079);
        x.hold(0, 0, 1, 10);
        fails("14: age -1", ARGUMENT, () -> x.buy(0, -1));
        fails("14: age 121", ARGUMENT, () -> x.buy(0, 121));
        fails("14: too young", STATE, () -> x.buy(0, 11));
        due("14: held still", 1000, () -> x.seat(0, 0, 1));
        due("14: bought", 0, () -> x.buy(0, 12));
        due("14: sold then", 0, () -> x.seat(0, 0, 1));
        due("14: what is paid", 75, () -> x.ofTicket(0, 4));
        due("14: no hold is left", 0, () -> x.all(3));
        fails("14: it has ended", STATE, () -> x.buy(0, 12));
        fails("14: it has ended, age out of range", ARGUMENT, () -> x.buy(0, 121));
        x.hold(0, 0, 0, 10);
        x.join(0, 50, false);
        due("14: bought, not for the line", 1, () -> x.buy(1, 120));
        due("14: the line is as it was", 1, () -> x.ofShow(0, 6));
        x.giveBack(0);
        x.giveBack(2);
        x.hold(0, 0, 1, 10);
        x.pass(10);
        fails("14: its time is over", STATE, () -> x.buy(2, 30));

        Platterhouse z = house(1, 1, 30, 0, 100);
        z.show(0, 0, 1200);
        z.hold(0, 0, 0, 10);
        due("14: at 0", 0, () -> z.buy(0, 0));

        Platterhouse y = nearlyOut(1);
        y.giveBack(0);
        y.hold(0, 0, 0, 5000);
        due("14: the last ticket", 399, () -> y.buy(0, 30));
        y.giveBack(1);
        y.hold(0, 0, 1, 5000);
        fails("14: there are 400", STATE, () -> y.buy(1, 30));
        due("14: held still", 1001, () -> y.seat(0, 0, 1));
    }

    private static void promise15() {
        Platterhouse x = house(2, 3, 30, 12, 100);
        fails("15: no show", INDEX, () -> x.sell(0, 0, 0, -1));
        x.show(0, 0, 1080);
        int[][] bad = {{-1, 0}, {2, 0}, {0, -1}, {0, 3}};
        for (int[] b : bad) {
            fails("15: seat " + b[0] + ", " + b[1], INDEX, () -> x.sell(0, b[0], b[1], 121));
        }
        fails("15: show -1", INDEX, () -> x.sell(-1, 0, 0, 30));
        fails("15: age -1", ARGUMENT, () -> x.sell(0, 0, 0, -1));
        fails("15: age 121", ARGUMENT, () -> x.sell(0, 0, 0, 121));
        fails("15: too young", STATE, () -> x.sell(0, 0, 0, 11));
        due("15: sold", 0, () -> x.sell(0, 1, 2, 12));
        due("15: at 120", 1, () -> x.sell(0, 0, 0, 120));
        fails("15: sold before", STATE, () -> x.sell(0, 1, 2, 30));
        fails("15: sold before, age out of range", ARGUMENT, () -> x.sell(0, 1, 2, 121));
        x.hold(0, 0, 1, 5);
        fails("15: held", STATE, () -> x.sell(0, 0, 1, 30));
        x.pass(5);
        due("15: free again", 2, () -> x.sell(0, 0, 1, 30));
        due("15: what is paid", 300, () -> x.ofShow(0, 7));
        x.pass(1075);
        fails("15: RUNNING", STATE, () -> x.sell(0, 0, 2, 30));

        Platterhouse z = house(1, 1, 30, 0, 100);
        z.show(0, 0, 1200);
        due("15: at 0", 0, () -> z.sell(0, 0, 0, 0));
        due("18: at 0", 0, () -> z.join(0, 0, false));

        Platterhouse y = nearlyOut(0);
        y.giveBack(0);
        fails("15: there are 400", STATE, () -> y.sell(0, 0, 0, 30));
        due("15: it stays free", -1, () -> y.seat(0, 0, 0));
        due("15: 400 were sold", 400, () -> y.all(2));
    }

    private static void promise16() {
        Platterhouse x = house(2, 6, 30, 12, 100);
        fails("16: no show", INDEX, () -> x.group(0, 1, -1));
        fails("16: no show -1", INDEX, () -> x.group(-1, 2, 30));
        x.show(0, 0, 1200);
        fails("16: many 1", ARGUMENT, () -> x.group(0, 1, 30));
        fails("16: many 9", ARGUMENT, () -> x.group(0, 9, 30));
        fails("16: age -1", ARGUMENT, () -> x.group(0, 2, -1));
        fails("16: age 121", ARGUMENT, () -> x.group(0, 2, 121));
        fails("16: too young", STATE, () -> x.group(0, 2, 11));
        fails("16: more than the row", STATE, () -> x.group(0, 7, 30));
        due("16: in the middle", 0, () -> x.group(0, 2, 30));
        due("16: from seat 2", 0, () -> x.seat(0, 0, 2));
        due("16: to seat 3, rising", 1, () -> x.seat(0, 0, 3));
        due("16: of two as near the lowest", 2, () -> x.group(0, 2, 30));
        due("16: from seat 0", 2, () -> x.seat(0, 0, 0));
        due("16: three do not go in row 0", 4, () -> x.group(0, 3, 30));
        due("16: twice 1 and 3 is as near as twice 2 and 3", 4, () -> x.seat(0, 1, 1));
        due("16: row 0 first though less in the middle", 7, () -> x.group(0, 2, 30));
        due("16: from seat 4", 7, () -> x.seat(0, 0, 4));
        due("16: then row 1", 9, () -> x.group(0, 2, 30));
        due("16: from seat 4 there", 9, () -> x.seat(0, 1, 4));
        fails("16: one free seat is too few", STATE, () -> x.group(0, 2, 30));
        due("16: each is paid", 1100, () -> x.ofShow(0, 7));
        x.pass(1200);
        fails("16: RUNNING", STATE, () -> x.group(0, 2, 30));
        x.show(0, 0, 2400);
        x.hold(1, 0, 1, 5000);
        x.hold(1, 0, 4, 5000);
        due("16: a held seat is not free", 11, () -> x.group(1, 3, 30));
        due("16: so row 1", 11, () -> x.seat(1, 1, 1));
        due("16: two between the held ones", 14, () -> x.group(1, 2, 30));
        due("16: from seat 2", 14, () -> x.seat(1, 0, 2));
        x.show(0, 0, 3600);
        x.cancel(2);
        fails("16: CANCELLED", STATE, () -> x.group(2, 2, 30));
        x.show(0, 0, 3600);
        x.pass(2400);
        fails("16: RUNNING, with free seats", STATE, () -> x.group(3, 2, 30));

        Platterhouse y = nearlyOut(2);
        y.show(0, 1, 90000);
        due("16: the last two", 398, () -> y.group(y.all(1) - 1, 2, 30));
        Platterhouse z = nearlyOut(1);
        int shows = z.all(1);
        z.show(0, 1, 90000);
        fails("16: there would be 401", STATE, () -> z.group(shows, 2, 30));
        due("16: which sold none", 399, () -> z.all(2));
        Platterhouse w = wide(6, 8);
        w.show(0, 0, 1200);
        due("16: eight", 0, () -> w.group(0, 8, 0));
        due("16: eight in row 1", 8, () -> w.group(0, 8, 0));
    }

    private static void promise17() {
        Platterhouse x = house(1, 2, 30, 0, 100);
        fails("17: no ticket", INDEX, () -> x.giveBack(0));
        fails("17: no ticket -1", INDEX, () -> x.giveBack(-1));
        x.show(0, 0, 1200);
        x.sell(0, 0, 0, 30);
        x.sell(0, 0, 1, 11);
        due("17: what is paid back", 50, () -> x.giveBack(1));
        due("17: what is paid then", 0, () -> x.ofTicket(1, 4));
        due("17: it was given back", 1, () -> x.ofTicket(1, 5));
        due("17: its seat is free", -1, () -> x.seat(0, 0, 1));
        due("17: of the show", 100, () -> x.ofShow(0, 7));
        fails("17: twice", STATE, () -> x.giveBack(1));
        x.sell(0, 0, 1, 40);
        fails("17: twice, its seat is sold again", STATE, () -> x.giveBack(1));
        x.join(0, 10, false);
        due("17: paid back with a line", 100, () -> x.giveBack(0));
        due("17: to the line", 3, () -> x.seat(0, 0, 0));
        due("17: at the price for that age", 50, () -> x.ofTicket(3, 4));
        due("17: of that seat", 0, () -> x.ofTicket(3, 2));
        due("17: the line is empty", 0, () -> x.ofShow(0, 6));
        x.pass(1200);
        fails("17: RUNNING", STATE, () -> x.giveBack(2));

        Platterhouse y = nearlyOut(1);
        y.join(0, 50, false);
        y.join(0, 51, false);
        y.giveBack(0);
        due("17: the last ticket to the line", 399, () -> y.seat(0, 0, 0));
        due("17: ticket 1 of 400", 75, () -> y.giveBack(1));
        due("17: its seat stays free", -1, () -> y.seat(0, 0, 1));
        due("17: and the line as it is", 1, () -> y.ofShow(0, 6));
        y.hold(0, 0, 1, 10);
        due("17: also later on", -1, () -> y.letGo(0));
        y.hold(0, 0, 1, 10);
        y.pass(10);
        due("17: also as time ends a hold", 1, () -> y.ofShow(0, 6));
        due("17: no ticket more", 400, () -> y.all(2));
        fails("17: a seat is free, so none joins", STATE, () -> y.join(0, 30, true));
    }

    private static void promise18() {
        Platterhouse x = house(1, 2, 30, 12, 100);
        fails("18: no show", INDEX, () -> x.join(0, -1, true));
        fails("18: no show -1", INDEX, () -> x.join(-1, 30, true));
        x.show(0, 0, 1200);
        x.sell(0, 0, 0, 30);
        fails("18: a seat is free", STATE, () -> x.join(0, 30, false));
        x.hold(0, 0, 1, 10);
        fails("18: age -1", ARGUMENT, () -> x.join(0, -1, true));
        fails("18: age 121", ARGUMENT, () -> x.join(0, 121, true));
        fails("18: too young", STATE, () -> x.join(0, 11, true));
        due("18: a held seat is not free", 0, () -> x.join(0, 12, false));
        due("18: behind", 1, () -> x.join(0, 13, false));
        due("18: a member", 0, () -> x.join(0, 14, true));
        due("18: a member behind that", 1, () -> x.join(0, 15, true));
        due("18: at the end", 4, () -> x.join(0, 16, false));
        x.giveBack(0);
        due("18: the first of the members", 14, () -> x.ofTicket(1, 3));
        x.giveBack(1);
        due("18: the second of them", 15, () -> x.ofTicket(2, 3));
        due("18: a member ahead of those who are left", 0, () -> x.join(0, 17, true));
        int[] ages = {17, 12, 13, 16};
        for (int i = 0; i < ages.length; i++) {
            int ticket = i + 3;
            x.giveBack(ticket - 1);
            due("18: then ticket " + ticket, ages[i], () -> x.ofTicket(ticket, 3));
        }
        due("18: all have gone", 0, () -> x.ofShow(0, 6));
        for (int i = 0; i < 40; i++) {
            int want = i;
            due("18: somebody, " + i, want, () -> x.join(0, 30, false));
        }
        fails("18: 40 are in the line", STATE, () -> x.join(0, 30, true));
        fails("18: 40 are, age out of range", ARGUMENT, () -> x.join(0, 121, true));
        x.giveBack(6);
        due("18: 39 are left", 39, () -> x.ofShow(0, 6));
        x.pass(1199);
        due("18: one more got the held seat", 38, () -> x.ofShow(0, 6));
        x.pass(1);
        due("18: gone as it runs", 0, () -> x.ofShow(0, 6));
        fails("18: RUNNING", STATE, () -> x.join(0, 30, true));
    }

    private static void promise19() {
        Platterhouse x = house(1, 1, 60, 0, 100);
        x.hall(1, 1);
        fails("19: no film", INDEX, () -> x.fits(1, 0, 0));
        fails("19: no hall", INDEX, () -> x.fits(0, 2, 0));
        fails("19: now", ARGUMENT, () -> x.fits(0, 0, 0));
        fails("19: 100001", ARGUMENT, () -> x.fits(0, 0, 100001));
        due("19: 1", 0, () -> x.fits(0, 0, 1));
        due("19: 100000", 0, () -> x.fits(0, 0, 100000));
        due("19: no key", 1, () -> x.fits(0, 1, 500));
        x.key(0, 1, 0, 110000);
        x.show(0, 0, 500);
        x.lamp(0, 60, false);
        x.lamp(1, 59, false);
        due("19: the hall ahead of the lamp", 2, () -> x.fits(0, 0, 579));
        due("19: the lamp", 4, () -> x.fits(0, 0, 580));
        due("19: 79 ahead", 2, () -> x.fits(0, 0, 421));
        due("19: 80 ahead", 4, () -> x.fits(0, 0, 420));
        due("19: the spread ahead of the lamp", 3, () -> x.fits(0, 1, 509));
        due("19: the other lamp", 4, () -> x.fits(0, 1, 510));
        x.lamp(1, 60, false);
        due("19: it may burn for so long", 0, () -> x.fits(0, 1, 510));
        x.film(60, 0, 1);
        due("19: the key ahead of all", 1, () -> x.fits(1, 0, 500));
        x.pass(510);
        due("19: RUNNING takes the hall", 2, () -> x.fits(0, 0, 570));
        x.spread(60);
        due("19: RUNNING has a start", 3, () -> x.fits(0, 1, 559));
        due("19: RUNNING, far enough", 0, () -> x.fits(0, 1, 560));
        x.pass(50);
        due("19: OVER does not take it", 4, () -> x.fits(0, 0, 561));
        x.lamp(0, 120, false);
        due("19: OVER, the lamp may", 0, () -> x.fits(0, 0, 561));
        due("19: OVER has no start", 0, () -> x.fits(0, 1, 561));
        x.show(0, 0, 1000);
        due("19: PLANNED takes it", 2, () -> x.fits(0, 0, 1000));
        x.cancel(1);
        due("19: CANCELLED does not", 0, () -> x.fits(0, 0, 1000));
    }

    private static void promise20() {
        Platterhouse x = wide(1, 1);
        fails("20: no film", INDEX, () -> x.first(1, 0, 0));
        fails("20: no hall", INDEX, () -> x.first(0, 2, 0));
        fails("20: now", ARGUMENT, () -> x.first(0, 0, 0));
        fails("20: 100001", ARGUMENT, () -> x.first(0, 0, 100001));
        due("20: at once", 1, () -> x.first(0, 0, 1));
        due("20: the last minute", 100000, () -> x.first(0, 0, 100000));
        x.spread(10);
        x.show(0, 0, 100);
        x.show(0, 0, 160);
        x.show(0, 1, 205);
        due("20: ahead", 50, () -> x.first(0, 0, 50));
        due("20: behind two and the spread", 215, () -> x.first(0, 0, 51));
        due("20: the other hall", 110, () -> x.first(0, 1, 91));
        due("20: the other hall, behind its own", 255, () -> x.first(0, 1, 156));

        Platterhouse y = new Platterhouse();
        y.hall(1, 1);
        y.film(30, 0, 1);
        y.key(0, 0, 20000, 20030);
        due("20: 10080 later", 20000, () -> y.first(0, 0, 9920));
        due("20: 10081 later", -1, () -> y.first(0, 0, 9919));
        due("20: behind the key", -1, () -> y.first(0, 0, 20001));
        y.key(0, 0, 100000, 100030);
        due("20: 100000", 100000, () -> y.first(0, 0, 95000));
        y.lamp(0, 29, false);
        due("20: the lamp lets none", -1, () -> y.first(0, 0, 95000));
    }

    private static void promise21() {
        Platterhouse x = house(1, 1, 30, 18, 99);
        fails("21: no show", INDEX, () -> x.price(0, -1));
        fails("21: no show -1", INDEX, () -> x.price(-1, 30));
        x.show(0, 0, 1079);
        x.lamp(0, 100000, true);
        x.show(0, 0, 1440 + 1080);
        x.show(0, 0, 2 * 1440);
        x.show(0, 0, 3 * 1440 - 1);
        fails("21: age -1", ARGUMENT, () -> x.price(0, -1));
        fails("21: age 121", ARGUMENT, () -> x.price(0, 121));
        due("21: three quarters", 74, () -> x.price(0, 12));
        due("21: half of that", 37, () -> x.price(0, 11));
        due("21: at 1080", 99, () -> x.price(1, 120));
        due("21: half", 49, () -> x.price(1, 0));
        due("21: the day's first minute", 74, () -> x.price(2, 30));
        due("21: the day's last minute", 99, () -> x.price(3, 30));
        x.cancel(0);
        due("21: of a cancelled one too", 74, () -> x.price(0, 30));
        Platterhouse y = house(1, 1, 30, 0, 1);
        y.show(0, 0, 100);
        due("21: 1 becomes 0", 0, () -> y.price(0, 30));
        y.sell(0, 0, 0, 30);
        due("21: and is paid so", 0, () -> y.ofTicket(0, 4));
        due("21: and is not given back by that", 0, () -> y.ofTicket(0, 5));
    }

    private static void promise22() {
        Platterhouse x = house(2, 3, 30, 0, 100);
        fails("22: no show", INDEX, () -> x.seat(0, 0, 0));
        x.show(0, 0, 1200);
        int[][] bad = {{-1, 0}, {2, 0}, {0, -1}, {0, 3}, {LOW, LOW}, {HIGH, HIGH}};
        for (int[] b : bad) {
            fails("22: seat " + b[0] + ", " + b[1], INDEX, () -> x.seat(0, b[0], b[1]));
        }
        fails("22: show -1", INDEX, () -> x.seat(-1, 0, 0));
        fails("22: show 1", INDEX, () -> x.seat(1, 0, 0));
        x.hold(0, 0, 2, 10);
        x.hold(0, 1, 0, 5000);
        x.sell(0, 1, 2, 30);
        int[][] want = {{-1, -1, 1000}, {1001, -1, 0}};
        for (int row = 0; row < 2; row++) {
            for (int seat = 0; seat < 3; seat++) {
                int r = row;
                int s = seat;
                due("22: seat(0, " + r + ", " + s + ")", want[r][s], () -> x.seat(0, r, s));
            }
        }
        x.pass(1200);
        due("22: sold as it runs", 0, () -> x.seat(0, 1, 2));
        due("22: not held as it runs", -1, () -> x.seat(0, 1, 0));
        x.pass(30);
        due("22: sold as it is over", 0, () -> x.seat(0, 1, 2));
    }

    private static void promise23() {
        Platterhouse x = wide(1, 3);
        x.film(40, 0, 10);
        x.key(1, 1, 0, 110000);
        fails("23: no show", INDEX, () -> x.ofShow(0, 0));
        x.show(0, 0, 1200);
        x.show(1, 1, 1300);
        fails("23: no show 2", INDEX, () -> x.ofShow(2, 0));
        fails("23: no show -1", INDEX, () -> x.ofShow(-1, 0));
        fails("23: what -1", INDEX, () -> x.ofShow(0, -1));
        fails("23: what 8", INDEX, () -> x.ofShow(0, 8));
        x.sell(1, 0, 0, 30);
        x.sell(1, 0, 1, 11);
        x.hold(1, 0, 2, 100);
        x.join(1, 30, true);
        x.join(1, 30, true);
        x.join(1, 30, false);
        int[] planned = {1, 1, 1300, 0, 2, 1, 3, 15};
        for (int what = 0; what < 8; what++) {
            int w = what;
            due("23: ofShow(1, " + w + ")", planned[w], () -> x.ofShow(1, w));
        }
        x.pass(1340);
        int[] over = {1, 1, 1300, Platterhouse.OVER, 3, 0, 0, 25};
        for (int what = 0; what < 8; what++) {
            int w = what;
            due("23: over, ofShow(1, " + w + ")", over[w], () -> x.ofShow(1, w));
        }
        due("23: the other sold none", 0, () -> x.ofShow(0, 4));
    }

    private static void promise24() {
        Platterhouse x = wide(3, 5);
        fails("24: no ticket", INDEX, () -> x.ofTicket(0, 0));
        x.show(0, 0, 1200);
        x.show(0, 1, 1200);
        x.sell(1, 2, 3, 7);
        x.sell(0, 1, 4, 70);
        fails("24: no ticket 2", INDEX, () -> x.ofTicket(2, 0));
        fails("24: no ticket -1", INDEX, () -> x.ofTicket(-1, 0));
        fails("24: what -1", INDEX, () -> x.ofTicket(0, -1));
        fails("24: what 6", INDEX, () -> x.ofTicket(0, 6));
        int[][] want = {{1, 2, 3, 7, 50, 0}, {0, 1, 4, 70, 100, 0}, {1, 2, 3, 7, 0, 1}};
        for (int what = 0; what < 6; what++) {
            int w = what;
            due("24: ofTicket(0, " + w + ")", want[0][w], () -> x.ofTicket(0, w));
            due("24: ofTicket(1, " + w + ")", want[1][w], () -> x.ofTicket(1, w));
        }
        x.giveBack(0);
        for (int what = 0; what < 6; what++) {
            int w = what;
            due("24: given back, ofTicket(0, " + w + ")", want[2][w], () -> x.ofTicket(0, w));
        }
    }

    /** One seat in each row: there the row alone tells the seats apart. */
    private static void narrowHall() {
        Platterhouse x = wide(6, 1);
        x.show(0, 0, 1200);
        x.sell(0, 5, 0, 30);
        x.hold(0, 0, 0, 10);
        due("24: the row in a narrow hall", 5, () -> x.ofTicket(0, 1));
        due("24: the seat in a narrow hall", 0, () -> x.ofTicket(0, 2));
        due("22: sold in a narrow hall", 0, () -> x.seat(0, 5, 0));
        due("23: the first place is held", 1, () -> x.ofShow(0, 5));
    }

    private static void promise25() {
        Platterhouse x = wide(3, 5);
        fails("25: no hall 2", INDEX, () -> x.ofHall(2, 0));
        fails("25: no hall -1", INDEX, () -> x.ofHall(-1, 0));
        fails("25: what -1", INDEX, () -> x.ofHall(0, -1));
        fails("25: what 4", INDEX, () -> x.ofHall(0, 4));
        x.lamp(1, 77, false);
        x.show(0, 0, 50);
        x.show(0, 1, 60);
        due("25: seats", 15, () -> x.ofHall(1, 0));
        due("25: may burn", 77, () -> x.ofHall(1, 2));
        due("25: may burn, the other", 100000, () -> x.ofHall(0, 2));
        due("25: none runs", -1, () -> x.ofHall(0, 3));
        x.pass(60);
        due("25: 0 runs", 0, () -> x.ofHall(0, 3));
        due("25: 1 runs", 1, () -> x.ofHall(1, 3));
        due("25: not burned as it runs", 0, () -> x.ofHall(0, 1));
        x.pass(20);
        due("25: none runs then", -1, () -> x.ofHall(0, 3));
        due("25: burned", 30, () -> x.ofHall(0, 1));
        due("25: the other has not yet", 0, () -> x.ofHall(1, 1));
        due("25: the other runs", 1, () -> x.ofHall(1, 3));
    }

    private static Platterhouse weeks() {
        Platterhouse x = wide(2, 8);
        x.film(30, 0, 200);
        x.key(1, 0, 0, 110000);
        x.show(0, 0, 10080);
        x.show(0, 0, 20159);
        x.show(0, 1, 20160);
        x.show(1, 0, 11000);
        x.show(0, 0, 60000);
        x.sell(0, 0, 0, 30);
        x.group(1, 3, 30);
        x.group(2, 2, 30);
        x.sell(3, 0, 0, 30);
        x.sell(4, 0, 0, 30);
        return x;
    }

    private static void promises26And27() {
        Platterhouse x = weeks();
        int[] want = {375, 150, 0, 0, 75, 0, 0, 0, 0, 0};
        for (int week = 0; week < 10; week++) {
            int w = week;
            due("26: takings(0, " + w + ")", want[w], () -> x.takings(0, w));
            due("27: takingsAnew(0, " + w + ")", want[w], () -> x.takingsAnew(0, w));
        }
        due("26: the other film", 150, () -> x.takings(1, 0));
        due("27: the other film", 150, () -> x.takingsAnew(1, 0));
        for (int film : new int[] {-1, 2}) {
            fails("26: no film " + film, INDEX, () -> x.takings(film, 10));
            fails("27: no film " + film, INDEX, () -> x.takingsAnew(film, 10));
        }
        for (int week : new int[] {-1, 10, LOW, HIGH}) {
            fails("26: week " + week, ARGUMENT, () -> x.takings(0, week));
            fails("27: week " + week, ARGUMENT, () -> x.takingsAnew(0, week));
        }
        x.film(30, 0, 1);
        due("26: no opening", 0, () -> x.takings(2, 0));
        due("27: no opening", 0, () -> x.takingsAnew(2, 0));
        x.cancel(0);
        x.giveBack(1);
        due("26: still week 1 by show 1", 200, () -> x.takings(0, 0));
        due("27: still week 1 by show 1", 200, () -> x.takingsAnew(0, 0));
        x.cancel(1);
        due("26: the opening is later", 150, () -> x.takings(0, 0));
        due("27: the opening is later", 150, () -> x.takingsAnew(0, 0));
        x.show(0, 1, 10079);
        due("26: a show of week 0 without tickets", 0, () -> x.takings(0, 0));
        due("26: so that one is week 2", 150, () -> x.takings(0, 2));
        due("27: so that one is week 2", 150, () -> x.takingsAnew(0, 2));
        x.sell(5, 0, 0, 30);
        for (int i = 0; i < 2; i++) {
            x.pass(5000);
        }
        x.pass(80);
        x.breaks(5);
        due("26: a broken one opens", 0, () -> x.takings(0, 0));
        due("26: a broken one opens, week 2", 150, () -> x.takings(0, 2));
    }

    private static void promise28() {
        Platterhouse x = weeks();
        due("28: by the terms at first", 187, () -> x.share(0, 0));
        terms(x, 0, new int[] {70, 15, 40, 120, 0});
        due("28: the part above the nut", 178, () -> x.share(0, 0));
        due("28: the floor of 150", 60, () -> x.share(0, 1));
        terms(x, 0, new int[] {90, 10, 10, 50, 0});
        due("28: less the step", 80, () -> x.share(0, 1));
        due("28: the floor of 75", 12, () -> x.share(0, 4));
        terms(x, 0, new int[] {90, 25, 20, 0, 0});
        due("28: the part is the floor at least", 15, () -> x.share(0, 4));
        terms(x, 0, new int[] {100, 0, 0, 375, 0});
        due("28: not above the nut", 0, () -> x.share(0, 0));
        terms(x, 0, new int[] {100, 0, 0, 374, 0});
        due("28: 1 above the nut", 1, () -> x.share(0, 0));
        terms(x, 0, new int[] {100, 0, 0, 100000, 0});
        due("28: far below the nut", 0, () -> x.share(0, 0));
        due("28: a week without takings", 0, () -> x.share(0, 9));
        terms(x, 0, new int[] {10, 0, 33, 0, 0});
        due("28: the floor is above the first", 123, () -> x.share(0, 0));
        x.film(30, 0, 1);
        due("28: no opening", 0, () -> x.share(2, 0));
        fails("28: no film", INDEX, () -> x.share(3, 10));
        fails("28: no film -1", INDEX, () -> x.share(-1, 0));
        fails("28: week -1", ARGUMENT, () -> x.share(0, -1));
        fails("28: week 10", ARGUMENT, () -> x.share(0, 10));
    }

    private static void promise29() {
        Platterhouse x = weeks();
        due("29: keep 0", 1, () -> bit(x.mustStay(0, 0)));
        due("29: keep 0, no takings", 1, () -> bit(x.mustStay(0, 9)));
        terms(x, 0, new int[] {0, 0, 0, 0, 375});
        due("29: as many as keep", 1, () -> bit(x.mustStay(0, 0)));
        terms(x, 0, new int[] {0, 0, 0, 0, 376});
        due("29: one fewer", 0, () -> bit(x.mustStay(0, 0)));
        terms(x, 0, new int[] {0, 0, 0, 0, 150});
        due("29: week 1", 1, () -> bit(x.mustStay(0, 1)));
        due("29: week 4", 0, () -> bit(x.mustStay(0, 4)));
        x.film(30, 0, 1);
        due("29: no opening", 0, () -> bit(x.mustStay(2, 0)));
        fails("29: no film", INDEX, () -> bit(x.mustStay(3, 10)));
        fails("29: no film -1", INDEX, () -> bit(x.mustStay(-1, 0)));
        fails("29: week -1", ARGUMENT, () -> bit(x.mustStay(0, -1)));
        fails("29: week 10", ARGUMENT, () -> bit(x.mustStay(0, 10)));
    }

    private static void promise30() {
        Platterhouse x = house(1, 4, 30, 0, 100);
        fails("30: no ticket", INDEX, () -> x.audit(0, 0));
        x.show(0, 0, 1200);
        x.sell(0, 0, 0, 30);
        x.sell(0, 0, 1, 11);
        x.sell(0, 0, 2, 30);
        due("30: one", 50, () -> x.audit(1, 1));
        due("30: two", 150, () -> x.audit(0, 1));
        due("30: three", 250, () -> x.audit(0, 2));
        x.giveBack(0);
        due("30: one given back", 150, () -> x.audit(0, 2));
        fails("30: to below from", ARGUMENT, () -> x.audit(1, 0));
        fails("30: from -1", INDEX, () -> x.audit(-1, 0));
        fails("30: to 3", INDEX, () -> x.audit(0, 3));
        fails("30: from 3, to below", INDEX, () -> x.audit(3, 0));
        fails("30: to -1", INDEX, () -> x.audit(0, -1));
        fails("30: to highest", INDEX, () -> x.audit(0, HIGH));
    }

    private static void promise31() {
        Platterhouse x = wide(1, 4);
        x.show(0, 0, 1200);
        x.show(0, 0, 1300);
        x.cancel(1);
        x.sell(0, 0, 0, 30);
        x.sell(0, 0, 1, 11);
        x.giveBack(0);
        x.hold(0, 0, 2, 100);
        x.hold(0, 0, 3, 50);
        int[] want = {0, 2, 2, 2, 50};
        for (int what = 0; what < 5; what++) {
            int w = what;
            due("31: all(" + w + ")", want[w], () -> x.all(w));
        }
        x.pass(50);
        due("31: minute", 50, () -> x.all(0));
        due("31: holds", 1, () -> x.all(3));
        x.buy(0, 30);
        due("31: holds then", 0, () -> x.all(3));
        due("31: tickets", 3, () -> x.all(2));
        due("31: paid", 150, () -> x.all(4));
        fails("31: what -1", INDEX, () -> x.all(-1));
        fails("31: what 5", INDEX, () -> x.all(5));
    }

    public static void main(String[] args) {
        promise1();
        promise2();
        promise3();
        promise4();
        promise5();
        promise6();
        promise7();
        promise8();
        promise9();
        promise10();
        promise11();
        orderInAMinute();
        promise12();
        promise13();
        promise14();
        promise15();
        promise16();
        promise17();
        promise18();
        promise19();
        promise20();
        promise21();
        promise22();
        promise23();
        promise24();
        narrowHall();
        promise25();
        promises26And27();
        promise28();
        promise29();
        promise30();
        promise31();
        System.out.println(wrong == 0 ? checks + " checks: all as due" : wrong + " of " + checks + " are not as due");
        if (wrong != 0) {
            System.exit(1);
        }
    }
}

import java.util.ArrayList;
import java.util.List;
import java.util.TreeMap;

/**
 * Long made-up runs, each answer held against a slow second program, which goes minute by minute, keeps no
 * sum and no table that it could find anew, and reads the document word by word. The runs are the same each time.
 */
public final class ModelTest {

    private static final long INDEX = -1000001;
    private static final long ARGUMENT = -1000002;
    private static final long STATE = -1000003;
    private static final int RUNS = 400;
    private static final int CALLS = 512;

    private static final String[] NAMES = {"hall", "lamp", "film", "terms", "key", "spread", "show", "cancel", "breaks",
        "pass", "hold", "letGo", "buy", "sell", "group", "giveBack", "join", "fits", "first", "price", "seat", "ofShow",
        "ofTicket", "ofHall", "takings", "takingsAnew", "share", "mustStay", "audit", "all"};

    // ---- the slow second program

    private static final class Person {
        int age;
        boolean isMember;
    }

    private static final class SlowShow {
        int film;
        int hall;
        int start;
        int state;
        List<Person> line = new ArrayList<>();
    }

    /** A ticket has its seat as long as `isSeated`; a hold of which `isOpen` is true holds its seat. */
    private static final class SlowTicket {
        int show;
        int row;
        int seat;
        int age;
        int paid;
        boolean isBack;
    }

    private static final class SlowHold {
        int show;
        int row;
        int seat;
        int end;
        boolean isOpen = true;
    }

    private static final class Slow {
        int now = 0;
        int spread = 10;
        List<int[]> halls = new ArrayList<>();
        List<int[]> films = new ArrayList<>();
        List<int[]> keys = new ArrayList<>();
        List<SlowShow> shows = new ArrayList<>();
        List<SlowTicket> tickets = new ArrayList<>();
        List<SlowHold> holds = new ArrayList<>();

        boolean no(List<?> list, int number) {
            return number < 0 || number >= list.size();
        }

        boolean out(int value, int least, int most) {
            return value < least || value > most;
        }

        boolean noSeat(int show, int row, int seat) {
            if (no(shows, show)) {
                return true;
            }
            int[] hall = halls.get(shows.get(show).hall);
            return out(row, 0, hall[0] - 1) || out(seat, 0, hall[1] - 1);
        }

        int length(SlowShow s) {
            return films.get(s.film)[0];
        }

        int stateOf(int show) {
            return shows.get(show).state;
        }

        long seat(int show, int row, int seat) {
            if (noSeat(show, row, seat)) {
                return INDEX;
            }
            for (int i = 0; i < tickets.size(); i++) {
                SlowTicket t = tickets.get(i);
                if (t.show == show && t.row == row && t.seat == seat && !t.isBack) {
                    return i;
                }
            }
            for (int i = 0; i < holds.size(); i++) {
                SlowHold h = holds.get(i);
                if (h.show == show && h.row == row && h.seat == seat && h.isOpen) {
                    return 1000 + i;
                }
            }
            return -1;
        }

        int price(int show, int age) {
            SlowShow s = shows.get(show);
            int price = films.get(s.film)[2];
            if (s.start - 1440 * (s.start / 1440) < 1080) {
                price = 3 * price / 4;
            }
            return age < 12 ? price / 2 : price;
        }

        long ticket(int show, int row, int seat, int age) {
            SlowTicket t = new SlowTicket();
            t.show = show;
            t.row = row;
            t.seat = seat;
            t.age = age;
            t.paid = price(show, age);
            tickets.add(t);
            return tickets.size() - 1;
        }

        long toLine(int show, int row, int seat) {
            List<Person> line = shows.get(show).line;
            if (line.isEmpty() || tickets.size() == 400) {
                return -1;
            }
            int first = 0;
            while (first < line.size() && !line.get(first).isMember) {
                first++;
            }
            return ticket(show, row, seat, line.remove(first == line.size() ? 0 : first).age);
        }

        int reason(int film, int hall, int start) {
            int length = films.get(film)[0];
            boolean isOpen = false;
            int burned = halls.get(hall)[2] + length;
            boolean isTaken = false;
            boolean isClose = false;
            for (int[] k : keys) {
                isOpen |= k[0] == film && k[1] == hall && k[2] <= start && start + length <= k[3];
            }
            for (SlowShow s : shows) {
                if (s.state > 1) {
                    continue;
                }
                if (s.hall == hall) {
                    isTaken |= s.start + length(s) + 20 > start && start + length + 20 > s.start;
                    burned += length(s);
                } else {
                    isClose |= Math.abs(s.start - start) < spread;
                }
            }
            return !isOpen ? 1 : isTaken ? 2 : isClose ? 3 : burned > halls.get(hall)[3] ? 4 : 0;
        }

        void minute() {
            now++;
            for (SlowHold h : holds) {
                if (h.isOpen && h.end == now) {
                    h.isOpen = false;
                    toLine(h.show, h.row, h.seat);
                }
            }
            for (SlowShow s : shows) {
                if (s.state == 1 && s.start + length(s) == now) {
                    s.state = 2;
                    halls.get(s.hall)[2] += length(s);
                }
            }
            for (SlowShow s : shows) {
                if (s.state == 0 && s.start == now) {
                    s.state = 1;
                    s.line.clear();
                }
            }
        }

        long tell(int call, int[] a) {
            switch (call) {
                case 0:
                    if (out(a[0], 1, 6) || out(a[1], 1, 8)) {
                        return ARGUMENT;
                    }
                    if (halls.size() == 4) {
                        return STATE;
                    }
                    halls.add(new int[] {a[0], a[1], 0, 5000});
                    return halls.size() - 1;
                case 1:
                    if (no(halls, a[0])) {
                        return INDEX;
                    }
                    if (out(a[1], 1, 100000)) {
                        return ARGUMENT;
                    }
                    int burned = halls.get(a[0])[2];
                    halls.get(a[0])[3] = a[1];
                    halls.get(a[0])[2] = a[2] == 1 ? 0 : burned;
                    return burned;
                case 2:
                    if (out(a[0], 30, 240) || out(a[1], 0, 18) || out(a[2], 1, 999)) {
                        return ARGUMENT;
                    }
                    if (films.size() == 8) {
                        return STATE;
                    }
                    films.add(new int[] {a[0], a[1], a[2], 50, 0, 50, 0, 0});
                    return films.size() - 1;
                case 3:
                    if (no(films, a[0])) {
                        return INDEX;
                    }
                    for (int i = 1; i < 6; i++) {
                        if (out(a[i], 0, i < 4 ? 100 : 100000)) {
                            return ARGUMENT;
                        }
                    }
                    System.arraycopy(a, 1, films.get(a[0]), 3, 5);
                    return 0;
                case 4:
                    if (no(films, a[0]) || no(halls, a[1])) {
                        return INDEX;
                    }
                    if (out(a[2], 0, 100000) || out(a[3], a[2] + 1, 110000)) {
                        return ARGUMENT;
                    }
                    if (keys.size() == 30) {
                        return STATE;
                    }
                    keys.add(a.clone());
                    return keys.size() - 1;
                default:
                    if (out(a[0], 0, 60)) {
                        return ARGUMENT;
                    }
                    int before = spread;
                    spread = a[0];
                    return before;
            }
        }

        long show(int[] a) {
            if (no(films, a[0]) || no(halls, a[1])) {
                return INDEX;
            }
            if (out(a[2], now + 1, 100000)) {
                return ARGUMENT;
            }
            if (reason(a[0], a[1], a[2]) != 0 || shows.size() == 30) {
                return STATE;
            }
            SlowShow s = new SlowShow();
            s.film = a[0];
            s.hall = a[1];
            s.start = a[2];
            shows.add(s);
            return shows.size() - 1;
        }

        long cancel(int show) {
            if (no(shows, show)) {
                return INDEX;
            }
            if (stateOf(show) != 0) {
                return STATE;
            }
            long back = 0;
            for (SlowTicket t : tickets) {
                if (t.show == show) {
                    back += t.paid;
                    t.paid = 0;
                    t.isBack = true;
                }
            }
            for (SlowHold h : holds) {
                h.isOpen &= h.show != show;
            }
            shows.get(show).line.clear();
            shows.get(show).state = 4;
            return back;
        }

        long breaks(int show) {
            if (no(shows, show)) {
                return INDEX;
            }
            if (stateOf(show) != 1) {
                return STATE;
            }
            SlowShow s = shows.get(show);
            long back = 0;
            for (SlowTicket t : tickets) {
                if (t.show == show && !t.isBack) {
                    int some = 3 * (now - s.start) < 2 * length(s) ? t.paid : t.paid / 2;
                    back += some;
                    t.paid -= some;
                }
            }
            halls.get(s.hall)[2] += now - s.start;
            s.state = 3;
            return back;
        }

        long pass(int minutes) {
            if (out(minutes, 1, 5000)) {
                return ARGUMENT;
            }
            if (now + minutes > 100000) {
                return STATE;
            }
            for (int i = 0; i < minutes; i++) {
                minute();
            }
            return now;
        }

        long hold(int[] a) {
            if (noSeat(a[0], a[1], a[2])) {
                return INDEX;
            }
            if (out(a[3], 1, 5000)) {
                return ARGUMENT;
            }
            if (stateOf(a[0]) != 0 || seat(a[0], a[1], a[2]) != -1 || holds.size() == 100) {
                return STATE;
            }
            SlowHold h = new SlowHold();
            h.show = a[0];
            h.row = a[1];
            h.seat = a[2];
            h.end = now + a[3] > shows.get(a[0]).start ? shows.get(a[0]).start : now + a[3];
            holds.add(h);
            return holds.size() - 1;
        }

        long letGo(int hold) {
            if (no(holds, hold)) {
                return INDEX;
            }
            SlowHold h = holds.get(hold);
            if (!h.isOpen) {
                return STATE;
            }
            h.isOpen = false;
            return toLine(h.show, h.row, h.seat);
        }

        long buy(int hold, int age) {
            if (no(holds, hold)) {
                return INDEX;
            }
            if (out(age, 0, 120)) {
                return ARGUMENT;
            }
            SlowHold h = holds.get(hold);
            if (!h.isOpen || age < films.get(shows.get(h.show).film)[1] || tickets.size() == 400) {
                return STATE;
            }
            h.isOpen = false;
            return ticket(h.show, h.row, h.seat, age);
        }

        long sell(int[] a) {
            if (noSeat(a[0], a[1], a[2])) {
                return INDEX;
            }
            if (out(a[3], 0, 120)) {
                return ARGUMENT;
            }
            if (stateOf(a[0]) != 0 || seat(a[0], a[1], a[2]) != -1 || a[3] < films.get(shows.get(a[0]).film)[1]
                    || tickets.size() == 400) {
                return STATE;
            }
            return ticket(a[0], a[1], a[2], a[3]);
        }

        long group(int show, int many, int age) {
            if (no(shows, show)) {
                return INDEX;
            }
            if (out(many, 2, 8) || out(age, 0, 120)) {
                return ARGUMENT;
            }
            int[] hall = halls.get(shows.get(show).hall);
            if (stateOf(show) != 0 || age < films.get(shows.get(show).film)[1] || tickets.size() + many > 400) {
                return STATE;
            }
            for (int row = 0; row < hall[0]; row++) {
                TreeMap<Integer, Integer> found = new TreeMap<>();
                for (int low = hall[1] - many; low >= 0; low--) {
                    int free = 0;
                    for (int i = 0; i < many; i++) {
                        free += seat(show, row, low + i) == -1 ? 1 : 0;
                    }
                    if (free == many) {
                        found.put(Math.abs(2 * low + many - hall[1]), low);
                    }
                }
                if (!found.isEmpty()) {
                    long first = tickets.size();
                    for (int i = 0; i < many; i++) {
                        ticket(show, row, found.firstEntry().getValue() + i, age);
                    }
                    return first;
                }
            }
            return STATE;
        }

        long giveBack(int ticket) {
            if (no(tickets, ticket)) {
                return INDEX;
            }
            SlowTicket t = tickets.get(ticket);
            if (stateOf(t.show) != 0 || t.isBack) {
                return STATE;
            }
            int back = t.paid;
            t.paid = 0;
            t.isBack = true;
            toLine(t.show, t.row, t.seat);
            return back;
        }

        int count(int show, boolean isSold) {
            int[] hall = halls.get(shows.get(show).hall);
            int count = 0;
            for (int i = 0; i < hall[0] * hall[1]; i++) {
                long at = seat(show, i / hall[1], i % hall[1]);
                count += at >= 0 && at < 1000 == isSold ? 1 : 0;
            }
            return count;
        }

        long join(int show, int age, boolean isMember) {
            if (no(shows, show)) {
                return INDEX;
            }
            if (out(age, 0, 120)) {
                return ARGUMENT;
            }
            SlowShow s = shows.get(show);
            int[] hall = halls.get(s.hall);
            if (s.state != 0 || count(show, true) + count(show, false) != hall[0] * hall[1]
                    || age < films.get(s.film)[1] || s.line.size() == 40) {
                return STATE;
            }
            int ahead = 0;
            for (Person p : s.line) {
                ahead += p.isMember || !isMember ? 1 : 0;
            }
            Person p = new Person();
            p.age = age;
            p.isMember = isMember;
            s.line.add(p);
            return ahead;
        }

        long fits(int[] a, boolean isFirst) {
            if (no(films, a[0]) || no(halls, a[1])) {
                return INDEX;
            }
            if (out(a[2], now + 1, 100000)) {
                return ARGUMENT;
            }
            if (!isFirst) {
                return reason(a[0], a[1], a[2]);
            }
            for (int start = a[2]; start <= a[2] + 10080 && start <= 100000; start++) {
                if (reason(a[0], a[1], start) == 0) {
                    return start;
                }
            }
            return -1;
        }

        long ofShow(int show, int what) {
            if (no(shows, show) || out(what, 0, 7)) {
                return INDEX;
            }
            SlowShow s = shows.get(show);
            long paid = 0;
            for (SlowTicket t : tickets) {
                paid += t.show == show ? t.paid : 0;
            }
            return new long[] {s.film, s.hall, s.start, s.state, count(show, true), count(show, false), s.line.size(),
                paid}[what];
        }

        long ofTicket(int ticket, int what) {
            if (no(tickets, ticket) || out(what, 0, 5)) {
                return INDEX;
            }
            SlowTicket t = tickets.get(ticket);
            return new long[] {t.show, t.row, t.seat, t.age, t.paid, t.isBack ? 1 : 0}[what];
        }

        long ofHall(int hall, int what) {
            if (no(halls, hall) || out(what, 0, 3)) {
                return INDEX;
            }
            int running = -1;
            for (int i = 0; i < shows.size(); i++) {
                running = shows.get(i).hall == hall && stateOf(i) == 1 ? i : running;
            }
            int[] h = halls.get(hall);
            return new long[] {h[0] * h[1], h[2], h[3], running}[what];
        }

        long ofWeek(int call, int film, int week) {
            if (no(films, film)) {
                return INDEX;
            }
            if (out(week, 0, 9)) {
                return ARGUMENT;
            }
            long opening = 100;
            for (SlowShow s : shows) {
                opening = s.film == film && s.state != 4 ? Math.min(opening, s.start / 10080) : opening;
            }
            long taken = 0;
            for (SlowTicket t : tickets) {
                SlowShow s = shows.get(t.show);
                taken += s.film == film && s.start / 10080 - opening == week ? t.paid : 0;
            }
            int[] f = films.get(film);
            if (call == 27) {
                return opening < 100 && taken >= f[7] ? 1 : 0;
            }
            if (call < 26) {
                return taken;
            }
            long part = f[3] - week * f[4] < f[5] ? f[5] : f[3] - week * f[4];
            long above = taken < f[6] ? 0 : taken - f[6];
            return Math.max(part * above / 100, f[5] * taken / 100);
        }

        long audit(int from, int to) {
            if (no(tickets, from) || no(tickets, to)) {
                return INDEX;
            }
            long sum = 0;
            for (int i = from; i <= to; i++) {
                sum += tickets.get(i).paid;
            }
            return to < from ? ARGUMENT : sum;
        }

        long all(int what) {
            int open = 0;
            for (SlowHold h : holds) {
                open += h.isOpen ? 1 : 0;
            }
            if (out(what, 0, 4)) {
                return INDEX;
            }
            return what == 4 && tickets.isEmpty() ? 0 : what == 4 ? audit(0, tickets.size() - 1)
                    : new long[] {now, shows.size(), tickets.size(), open}[what];
        }

        long answer(int call, int[] a) {
            switch (call) {
                case 6: return show(a);
                case 7: return cancel(a[0]);
                case 8: return breaks(a[0]);
                case 9: return pass(a[0]);
                case 10: return hold(a);
                case 11: return letGo(a[0]);
                case 12: return buy(a[0], a[1]);
                case 13: return sell(a);
                case 14: return group(a[0], a[1], a[2]);
                case 15: return giveBack(a[0]);
                case 16: return join(a[0], a[1], a[2] == 1);
                case 17: return fits(a, false);
                case 18: return fits(a, true);
                case 19: return no(shows, a[0]) ? INDEX : out(a[1], 0, 120) ? ARGUMENT : price(a[0], a[1]);
                case 20: return seat(a[0], a[1], a[2]);
                case 21: return ofShow(a[0], a[1]);
                case 22: return ofTicket(a[0], a[1]);
                case 23: return ofHall(a[0], a[1]);
                case 24:
                case 25:
                case 26:
                case 27: return ofWeek(call, a[0], a[1]);
                case 28: return audit(a[0], a[1]);
                case 29: return all(a[0]);
                default: return tell(call, a);
            }
        }
    }

    // ---- the class itself

    private static long plain(Platterhouse x, int call, int[] a) {
        switch (call) {
            case 0: return x.hall(a[0], a[1]);
            case 1: return x.lamp(a[0], a[1], a[2] == 1);
            case 2: return x.film(a[0], a[1], a[2]);
            case 3:
                x.terms(a[0], a[1], a[2], a[3], a[4], a[5]);
                return 0;
            case 4: return x.key(a[0], a[1], a[2], a[3]);
            case 5: return x.spread(a[0]);
            case 6: return x.show(a[0], a[1], a[2]);
            case 7: return x.cancel(a[0]);
            case 8: return x.breaks(a[0]);
            case 9: return x.pass(a[0]);
            case 10: return x.hold(a[0], a[1], a[2], a[3]);
            case 11: return x.letGo(a[0]);
            case 12: return x.buy(a[0], a[1]);
            case 13: return x.sell(a[0], a[1], a[2], a[3]);
            case 14: return x.group(a[0], a[1], a[2]);
            case 15: return x.giveBack(a[0]);
            case 16: return x.join(a[0], a[1], a[2] == 1);
            case 17: return x.fits(a[0], a[1], a[2]);
            case 18: return x.first(a[0], a[1], a[2]);
            case 19: return x.price(a[0], a[1]);
            case 20: return x.seat(a[0], a[1], a[2]);
            case 21: return x.ofShow(a[0], a[1]);
            case 22: return x.ofTicket(a[0], a[1]);
            case 23: return x.ofHall(a[0], a[1]);
            case 24: return x.takings(a[0], a[1]);
            case 25: return x.takingsAnew(a[0], a[1]);
            case 26: return x.share(a[0], a[1]);
            case 27: return x.mustStay(a[0], a[1]) ? 1 : 0;
            case 28: return x.audit(a[0], a[1]);
            default: return x.all(a[0]);
        }
    }

    /** Only an exception that the class throws itself counts as an answer: the machine's own go through. */
    private static long answer(Platterhouse x, int call, int[] a) {
        try {
            return plain(x, call, a);
        } catch (RuntimeException e) {
            String thrower = e.getStackTrace().length == 0 ? "" : e.getStackTrace()[0].getClassName();
            if (!thrower.startsWith("Platterhouse") || e.getMessage() == null) {
                throw e;
            }
            if (e.getClass() == IndexOutOfBoundsException.class) {
                return INDEX;
            }
            if (e.getClass() == IllegalArgumentException.class) {
                return ARGUMENT;
            }
            if (e.getClass() == IllegalStateException.class) {
                return STATE;
            }
            throw e;
        }
    }

    // ---- the made-up runs

    private static long seed;

    private static int below(int bound) {
        seed = seed * 6364136223846793005L + 1442695040888963407L;
        return (int) ((seed >>> 33) % bound);
    }

    private static int from(int least, int most) {
        return least + below(most - least + 1);
    }

    /** Mostly within the range, often at its edges, now and then outside it. */
    private static int some(int least, int most) {
        switch (below(40)) {
            case 0: return least - 1;
            case 1: return most + 1;
            case 2: return below(2) == 0 ? Integer.MIN_VALUE : Integer.MAX_VALUE;
            case 3: return least;
            case 4: return most;
            default: return most < least ? least : from(least, most);
        }
    }

    /** How often each call comes, by the kind of the run: 0 all alike, 1 seats, 2 lines, 3 many tickets, 4 shows. */
    private static final int[][] OFTEN = {
        {1, 3, 1, 2, 4, 2, 16, 3, 3, 24, 16, 8, 10, 20, 10, 12, 16, 8, 3, 4, 8, 12, 8, 6, 4, 4, 6, 4, 3, 6},
        {1, 1, 1, 1, 2, 1, 16, 1, 4, 16, 190, 30, 30, 30, 5, 20, 10, 2, 1, 2, 20, 12, 8, 2, 2, 2, 2, 2, 3, 6},
        {1, 1, 1, 1, 2, 1, 6, 1, 1, 12, 24, 12, 6, 20, 6, 30, 70, 2, 1, 2, 12, 12, 12, 2, 2, 2, 2, 2, 3, 6},
        {1, 1, 1, 1, 3, 1, 40, 0, 1, 2, 12, 6, 10, 12, 120, 16, 20, 2, 1, 2, 6, 6, 6, 2, 3, 3, 3, 2, 3, 6},
        {1, 8, 1, 3, 6, 6, 60, 8, 20, 30, 3, 1, 3, 8, 8, 3, 1, 30, 12, 2, 2, 10, 3, 12, 6, 6, 10, 6, 3, 6},
    };

    private static int someCall(int kind) {
        int sum = 0;
        for (int often : OFTEN[kind]) {
            sum += often;
        }
        int at = below(sum);
        int call = 0;
        while (at >= OFTEN[kind][call]) {
            at -= OFTEN[kind][call];
            call++;
        }
        return call;
    }

    private static int someStart(Slow slow, int kind) {
        int reach = kind == 4 ? 900 : kind == 3 ? 9000 : 3000;
        return below(8) == 0 ? some(slow.now + 1, 100000) : slow.now + some(1, reach);
    }

    private static int someMinutes(int kind) {
        return below(kind == 4 ? 12 : 25) == 0 ? some(1, 5000) : some(1, kind == 4 ? 90 : 60);
    }

    /** Often one that is in the state which the call needs, if there is one. */
    private static int someShow(Slow slow, int call) {
        int last = slow.shows.size() - 1;
        int wanted = call == 8 ? Platterhouse.RUNNING : Platterhouse.PLANNED;
        if (last >= 0 && below(2) == 0) {
            int at = below(last + 1);
            for (int i = 0; i <= last; i++) {
                int show = (at + i) % (last + 1);
                if (slow.stateOf(show) == wanted) {
                    return show;
                }
            }
        }
        return below(3) == 0 ? some(0, last) : some(Math.max(0, last - 2), last);
    }

    private static int[] someArguments(Slow slow, int kind, int call) {
        int film = some(0, slow.films.size() - 1);
        int hall = some(0, slow.halls.size() - 1);
        int show = someShow(slow, call);
        boolean isShow = show >= 0 && show < slow.shows.size();
        int[] size = isShow ? slow.halls.get(slow.shows.get(show).hall) : new int[] {1, 1};
        int row = some(0, size[0] - 1);
        int seat = some(0, size[1] - 1);
        int age = below(4) == 0 ? some(0, 120) : from(9, 24);
        int hold = below(3) == 0 ? some(0, slow.holds.size() - 1)
                : some(Math.max(0, slow.holds.size() - 4), slow.holds.size() - 1);
        int ticket = some(0, slow.tickets.size() - 1);
        switch (call) {
            case 0: return kind == 2 ? new int[] {some(1, 2), some(1, 2)} : new int[] {some(1, 6), some(1, 8)};
            case 1: return new int[] {hall, below(2) == 0 ? some(1, 100000) : some(1, 2000), below(2)};
            case 2: return new int[] {some(30, 240), below(2) == 0 ? 0 : some(0, 18), some(1, 999)};
            case 3: return new int[] {film, some(0, 100), some(0, 100), some(0, 100), some(0, 4000), some(0, 4000)};
            case 4:
                int from = below(2) == 0 ? some(0, 100000) : some(0, 20);
                return new int[] {film, hall, from, below(2) == 0 ? 110000 : some(from + 1, from + 9000)};
            case 5: return new int[] {some(0, 60)};
            case 6: return new int[] {film, hall, someStart(slow, kind)};
            case 9: return new int[] {someMinutes(kind)};
            case 10: return new int[] {show, row, seat, below(2) == 0 ? some(1, 5000) : some(1, 100)};
            case 11: return new int[] {hold};
            case 12: return new int[] {hold, age};
            case 13: return new int[] {show, row, seat, age};
            case 14: return new int[] {show, kind == 3 && size[1] > 1 ? from(2, size[1]) : some(2, 8), age};
            case 15: return new int[] {ticket};
            case 16: return new int[] {show, age, below(3) == 0 ? 1 : 0};
            case 17:
            case 18: return new int[] {film, hall, someStart(slow, kind)};
            case 19: return new int[] {show, age};
            case 20: return new int[] {show, row, seat};
            case 21: return new int[] {show, some(0, 7)};
            case 22: return new int[] {ticket, some(0, 5)};
            case 23: return new int[] {hall, some(0, 3)};
            case 24:
            case 25:
            case 26:
            case 27: return new int[] {film, some(0, below(2) == 0 ? 9 : 1)};
            case 28: return new int[] {ticket, some(0, slow.tickets.size() - 1)};
            case 29: return new int[] {some(0, 4)};
            default: return new int[] {show};
        }
    }

    /** The halls, films and keys with which a run begins, that not all of it is refused. */
    private static int[][] beginning(int kind) {
        int rows = kind == 2 ? 1 : kind % 2 == 1 ? 6 : from(2, 6);
        int seats = kind == 2 ? from(1, 2) : kind % 2 == 1 ? 8 : from(2, 8);
        return new int[][] {{0, rows, seats}, {0, 1, from(1, 3)}, {2, from(30, 200), 0, from(1, 999)},
            {2, from(30, 60), from(0, 18), from(1, 999)}, {4, 0, 0, 0, 110000}, {4, 1, 1, 0, 110000},
            {4, 1, 0, 0, 110000}, {4, 0, 1, from(0, 500), from(2000, 90000)}};
    }

    private static String text(int call, int[] a, long got, long want) {
        StringBuilder text = new StringBuilder(NAMES[call]).append('(');
        for (int i = 0; i < a.length; i++) {
            text.append(i == 0 ? "" : ", ").append(a[i]);
        }
        return text.append(") answered ").append(got).append(", due is ").append(want).toString();
    }

    private static boolean isRunAsDue(int run) {
        seed = 77777L * run + 13;
        int kind = run % OFTEN.length;
        int[][] begin = beginning(kind);
        Platterhouse x = new Platterhouse();
        Slow slow = new Slow();
        for (int i = 0; i < CALLS; i++) {
            boolean isBegin = i < begin.length;
            int call = isBegin ? begin[i][0] : someCall(kind);
            int[] a = new int[6];
            int[] told = isBegin ? begin[i] : someArguments(slow, kind, call);
            System.arraycopy(told, isBegin ? 1 : 0, a, 0, told.length - (isBegin ? 1 : 0));
            long want = slow.answer(call, a);
            long got;
            try {
                got = answer(x, call, a);
            } catch (RuntimeException e) {
                System.out.println("run " + run + ", call " + i + ": " + text(call, a, 0, want) + " but threw " + e);
                return false;
            }
            reached[call][want == INDEX ? 0 : want == ARGUMENT ? 1 : want == STATE ? 2 : 3]++;
            if (got != want) {
                System.out.println("run " + run + ", call " + i + ": " + text(call, a, got, want));
                return false;
            }
        }
        fullTickets += slow.tickets.size() == 400 ? 1 : 0;
        fullHolds += slow.holds.size() == 100 ? 1 : 0;
        fullShows += slow.shows.size() == 30 ? 1 : 0;
        return true;
    }

    /** How often each call ended in which way, so that runs that reach nothing are not taken for good ones. */
    private static final int[][] reached = new int[NAMES.length][4];
    private static int fullTickets = 0;
    private static int fullHolds = 0;
    private static int fullShows = 0;

    public static void main(String[] args) {
        int wrong = 0;
        for (int run = 0; run < RUNS; run++) {
            wrong += isRunAsDue(run) ? 0 : 1;
        }
        for (int call = 0; call < NAMES.length; call++) {
            if (args.length > 0) {
                System.out.printf("%-12s %6d %6d %6d %6d%n", NAMES[call], reached[call][0], reached[call][1],
                        reached[call][2], reached[call][3]);
            }
            if (wrong == 0 && reached[call][3] < 100) {
                wrong++;
                System.out.println("the runs hardly reach " + NAMES[call]);
            }
        }
        if (wrong == 0 && (fullTickets < 5 || fullHolds < 5 || fullShows < 5)) {
            wrong++;
            System.out.println("the runs hardly reach 400 tickets, 100 holds or 30 shows: " + fullTickets + ", "
                    + fullHolds + ", " + fullShows);
        }
        System.out.println(wrong == 0 ? RUNS + " runs: all as due" : wrong + " runs are not as due");
        if (wrong != 0) {
            System.exit(1);
        }
    }
}

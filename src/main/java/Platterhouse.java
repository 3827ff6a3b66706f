import java.util.ArrayList;
import java.util.Arrays;

/** A house that shows pictures; what each call promises stands in the project's document. */
public final class Platterhouse {

    public static final int NONE = -1;
    public static final int PLANNED = 0, RUNNING = 1, OVER = 2, BROKEN = 3, CANCELLED = 4;

    private static final int MOST_HALLS = 4;
    private static final int MOST_FILMS = 8;
    private static final int MOST_KEYS = 30;
    private static final int MOST_SHOWS = 30;
    private static final int MOST_HOLDS = 100;
    private static final int MOST_TICKETS = 400;
    private static final int MOST_IN_LINE = 40;

    private static final int LAST_MINUTE = 100000;
    private static final int LAST_KEY_MINUTE = 110000;
    private static final int DAY = 1440;
    private static final int WEEK = 10080;
    private static final int EVENING = 1080;
    private static final int PAUSE = 20;
    private static final int LONGEST_WAIT = 5000;

    private static final int OLDEST = 120;
    private static final int GROWN = 12;
    private static final int LAST_WEEK_ASKED = 9;

    /** A place holds a ticket's number, or this and a hold's number together, or NONE if it is free. */
    private static final int HELD = 1000;

    private final ArrayList<Hall> halls = new ArrayList<Hall>();
    private final ArrayList<Film> films = new ArrayList<Film>();
    private final ArrayList<Key> keys = new ArrayList<Key>();
    private final ArrayList<Show> shows = new ArrayList<Show>();
    private final ArrayList<Hold> holds = new ArrayList<Hold>();
    private final ArrayList<Ticket> tickets = new ArrayList<Ticket>();
    private int minute = 0;
    private int spreadMinutes = 10;

    public Platterhouse() {
    }

    // ---- halls, films, keys

    public int hall(int rows, int seats) throws IllegalArgumentException, IllegalStateException {
        needWithin(rows, 1, 6);
        needWithin(seats, 1, 8);
        if (halls.size() >= MOST_HALLS) {
            throw new IllegalStateException("no more halls");
        }
        halls.add(new Hall(halls.size(), rows, seats));
        return halls.size() - 1;
    }

    public int lamp(int hall, int minutes, boolean isNew)
            throws IndexOutOfBoundsException, IllegalArgumentException {
        Hall place = hallAt(hall);
        needWithin(minutes, 1, 100000);
        int burned = place.burned;
        place.mayBurn = minutes;
        if (isNew) {
            place.burned = 0;
        }
        return burned;
    }

    public int film(int length, int age, int price) throws IllegalArgumentException, IllegalStateException {
        needWithin(length, 30, 240);
        needWithin(age, 0, 18);
        needWithin(price, 1, 999);
        if (films.size() >= MOST_FILMS) {
            throw new IllegalStateException("no more films");
        }
        films.add(new Film(films.size(), length, age, price));
        return films.size() - 1;
    }

    public void terms(int film, int first, int step, int floor, int nut, int keep)
            throws IndexOutOfBoundsException, IllegalArgumentException {
        Film picture = filmAt(film);
        needWithin(first, 0, 100);
        needWithin(step, 0, 100);
        needWithin(floor, 0, 100);
        needWithin(nut, 0, 100000);
        needWithin(keep, 0, 100000);
        picture.first = first;
        picture.step = step;
        picture.floor = floor;
        picture.nut = nut;
        picture.keep = keep;
    }

    public int key(int film, int hall, int from, int to)
            throws IndexOutOfBoundsException, IllegalArgumentException, IllegalStateException {
        Film picture = filmAt(film);
        Hall place = hallAt(hall);
        needWithin(from, 0, LAST_MINUTE);
        needWithin(to, from + 1, LAST_KEY_MINUTE);
        if (keys.size() >= MOST_KEYS) {
            throw new IllegalStateException("no more keys");
        }
        keys.add(new Key(picture.number, place.number, from, to));
        return keys.size() - 1;
    }

    public int spread(int minutes) throws IllegalArgumentException {
        needWithin(minutes, 0, 60);
        int before = spreadMinutes;
        spreadMinutes = minutes;
        return before;
    }

    // ---- shows

    public int show(int film, int hall, int start)
            throws IndexOutOfBoundsException, IllegalArgumentException, IllegalStateException {
        Film picture = filmAt(film);
        Hall place = hallAt(hall);
        needWithin(start, minute + 1, LAST_MINUTE);
        if (shows.size() >= MOST_SHOWS) {
            throw new IllegalStateException("no more shows");
        }
        if (reasonAgainst(picture, place, start) != 0) {
            throw new IllegalStateException("the show does not fit");
        }
        shows.add(new Show(shows.size(), picture, place, start));
        return shows.size() - 1;
    }

    public int cancel(int show) throws IndexOutOfBoundsException, IllegalStateException {
        Show planned = showAt(show);
        needPlanned(planned);
        int back = 0;
        for (int i = 0; i < tickets.size(); i++) {
            Ticket ticket = tickets.get(i);
            if (ticket.show.number == show && !ticket.isGivenBack) {
                ticket.isGivenBack = true;
                back += ticket.payBack(ticket.paid);
            }
        }
        for (int i = 0; i < holds.size(); i++) {
            Hold hold = holds.get(i);
            if (hold.show.number == show) {
                hold.hasEnded = true;
            }
        }
        planned.clearPlaces();
        planned.line.clearAway();
        planned.state = CANCELLED;
        return back;
    }

    public int breaks(int show) throws IndexOutOfBoundsException, IllegalStateException {
        Show running = showAt(show);
        if (running.state != RUNNING) {
            throw new IllegalStateException("the show is not running");
        }
        int shown = minute - running.start;
        boolean isEarly = 3 * shown < 2 * running.film.length;
        int back = 0;
        for (int i = 0; i < tickets.size(); i++) {
            Ticket ticket = tickets.get(i);
            if (ticket.show.number == show && !ticket.isGivenBack) {
                back += ticket.payBack(isEarly ? ticket.paid : ticket.paid / 2);
            }
        }
        running.hall.burned += shown;
        running.state = BROKEN;
        return back;
    }

    public int pass(int minutes) throws IllegalArgumentException, IllegalStateException {
        needWithin(minutes, 1, LONGEST_WAIT);
        int target = minute + minutes;
        if (target > LAST_MINUTE) {
            throw new IllegalStateException("time ends before");
        }
        // Minutes in which nothing ends or starts are leapt over; each leap is a minute at least.
        for (int leap = 0; leap < minutes && minute < target; leap++) {
            minute = nextChange(target);
            endHolds();
            endShows();
            startShows();
        }
        return minute;
    }

    // ---- seats, tickets

    public int hold(int show, int row, int seat, int minutes)
            throws IndexOutOfBoundsException, IllegalArgumentException, IllegalStateException {
        Show planned = showAt(show);
        int place = placeAt(planned, row, seat);
        needWithin(minutes, 1, LONGEST_WAIT);
        needFree(planned, place);
        if (holds.size() >= MOST_HOLDS) {
            throw new IllegalStateException("no more holds");
        }
        int number = holds.size();
        holds.add(new Hold(planned, place, Math.min(minute + minutes, planned.start)));
        planned.places[place] = HELD + number;
        return number;
    }

    public int letGo(int hold) throws IndexOutOfBoundsException, IllegalStateException {
        return endUnbought(openHoldAt(hold));
    }

    public int buy(int hold, int age)
            throws IndexOutOfBoundsException, IllegalArgumentException, IllegalStateException {
        needHold(hold);
        needWithin(age, 0, OLDEST);
        Hold held = openHoldAt(hold);
        needOldEnough(held.show, age);
        needTickets(1);
        held.hasEnded = true;
        return addTicket(held.show, held.place, age);
    }

    public int sell(int show, int row, int seat, int age)
            throws IndexOutOfBoundsException, IllegalArgumentException, IllegalStateException {
        Show planned = showAt(show);
        int place = placeAt(planned, row, seat);
        needWithin(age, 0, OLDEST);
        needFree(planned, place);
        needOldEnough(planned, age);
        needTickets(1);
        return addTicket(planned, place, age);
    }

    public int group(int show, int many, int age)
            throws IndexOutOfBoundsException, IllegalArgumentException, IllegalStateException {
        Show planned = showAt(show);
        needWithin(many, 2, 8);
        needWithin(age, 0, OLDEST);
        needPlanned(planned);
        needOldEnough(planned, age);
        needTickets(many);
        int place = planned.placeForGroup(many);
        if (place == NONE) {
            throw new IllegalStateException("no such seats side by side");
        }
        int firstTicket = tickets.size();
        for (int i = 0; i < many; i++) {
            addTicket(planned, place + i, age);
        }
        return firstTicket;
    }

    public int giveBack(int ticket) throws IndexOutOfBoundsException, IllegalStateException {
        Ticket sold = ticketAt(ticket);
        needPlanned(sold.show);
        if (sold.isGivenBack) {
            throw new IllegalStateException("the ticket was given back");
        }
        sold.isGivenBack = true;
        int back = sold.payBack(sold.paid);
        freePlace(sold.show, sold.place);
        return back;
    }

    public int join(int show, int age, boolean isMember)
            throws IndexOutOfBoundsException, IllegalArgumentException, IllegalStateException {
        Show planned = showAt(show);
        needWithin(age, 0, OLDEST);
        needPlanned(planned);
        if (planned.countFree() > 0) {
            throw new IllegalStateException("some seat is free");
        }
        needOldEnough(planned, age);
        if (planned.line.size >= MOST_IN_LINE) {
            throw new IllegalStateException("the line is full");
        }
        return planned.line.comeIn(age, isMember);
    }

    // ---- what is asked

    public int fits(int film, int hall, int start) throws IndexOutOfBoundsException, IllegalArgumentException {
        Film picture = filmAt(film);
        Hall place = hallAt(hall);
        needWithin(start, minute + 1, LAST_MINUTE);
        return reasonAgainst(picture, place, start);
    }

    public int first(int film, int hall, int from) throws IndexOutOfBoundsException, IllegalArgumentException {
        Film picture = filmAt(film);
        Hall place = hallAt(hall);
        needWithin(from, minute + 1, LAST_MINUTE);
        int last = Math.min(from + WEEK, LAST_MINUTE);
        int start = from;
        for (int leap = 0; leap <= WEEK && start <= last; leap++) {
            if (reasonAgainst(picture, place, start) == 0) {
                return start;
            }
            start = nextChance(start);
        }
        return NONE;
    }

    public int price(int show, int age) throws IndexOutOfBoundsException, IllegalArgumentException {
        Show asked = showAt(show);
        needWithin(age, 0, OLDEST);
        return asked.priceFor(age);
    }

    public int seat(int show, int row, int seat) throws IndexOutOfBoundsException {
        Show asked = showAt(show);
        return asked.places[placeAt(asked, row, seat)];
    }

    public int ofShow(int show, int what) throws IndexOutOfBoundsException {
        Show asked = showAt(show);
        switch (what) {
            case 0: return asked.film.number;
            case 1: return asked.hall.number;
            case 2: return asked.start;
            case 3: return asked.state;
            case 4: return asked.countSold();
            case 5: return asked.countHeld();
            case 6: return asked.line.size;
            case 7: return asked.paid;
            default: throw new IndexOutOfBoundsException("what is out of range");
        }
    }

    public int ofTicket(int ticket, int what) throws IndexOutOfBoundsException {
        Ticket asked = ticketAt(ticket);
        switch (what) {
            case 0: return asked.show.number;
            case 1: return asked.show.rowOf(asked.place);
            case 2: return asked.show.seatOf(asked.place);
            case 3: return asked.age;
            case 4: return asked.paid;
            case 5: return asked.isGivenBack ? 1 : 0;
            default: throw new IndexOutOfBoundsException("what is out of range");
        }
    }

    public int ofHall(int hall, int what) throws IndexOutOfBoundsException {
        Hall asked = hallAt(hall);
        switch (what) {
            case 0: return asked.rows * asked.seats;
            case 1: return asked.burned;
            case 2: return asked.mayBurn;
            case 3: return runningIn(asked);
            default: throw new IndexOutOfBoundsException("what is out of range");
        }
    }

    public int takings(int film, int week) throws IndexOutOfBoundsException, IllegalArgumentException {
        Film picture = filmAt(film);
        needWithin(week, 0, LAST_WEEK_ASKED);
        return takenIn(picture, week);
    }

    public int takingsAnew(int film, int week) throws IndexOutOfBoundsException, IllegalArgumentException {
        Film picture = filmAt(film);
        needWithin(week, 0, LAST_WEEK_ASKED);
        int opening = openingOf(picture);
        if (opening == NONE) {
            return 0;
        }
        int sum = 0;
        for (int i = 0; i < tickets.size(); i++) {
            Ticket ticket = tickets.get(i);
            if (ticket.show.film.number == film && ticket.show.week() == opening + week) {
                sum += ticket.paid;
            }
        }
        return sum;
    }

    public int share(int film, int week) throws IndexOutOfBoundsException, IllegalArgumentException {
        Film picture = filmAt(film);
        needWithin(week, 0, LAST_WEEK_ASKED);
        return picture.ownersOf(takenIn(picture, week), week);
    }

    public boolean mustStay(int film, int week) throws IndexOutOfBoundsException, IllegalArgumentException {
        Film picture = filmAt(film);
        needWithin(week, 0, LAST_WEEK_ASKED);
        return openingOf(picture) != NONE && takenIn(picture, week) >= picture.keep;
    }

    public int audit(int from, int to) throws IndexOutOfBoundsException, IllegalArgumentException {
        needTicket(from);
        needTicket(to);
        if (to < from) {
            throw new IllegalArgumentException("to is below from");
        }
        return paidFor(from, to);
    }

    public int all(int what) throws IndexOutOfBoundsException {
        switch (what) {
            case 0: return minute;
            case 1: return shows.size();
            case 2: return tickets.size();
            case 3: return countOpenHolds();
            case 4: return paidFor(0, tickets.size() - 1);
            default: throw new IndexOutOfBoundsException("what is out of range");
        }
    }

    // ---- what calls need

    private static void needWithin(int value, int least, int most) {
        if (value < least || value > most) {
            throw new IllegalArgumentException("an argument is out of range");
        }
    }

    private static void needPlanned(Show show) {
        if (show.state != PLANNED) {
            throw new IllegalStateException("the show is not planned");
        }
    }

    private static void needFree(Show show, int place) {
        needPlanned(show);
        if (show.places[place] != NONE) {
            throw new IllegalStateException("the seat is not free");
        }
    }

    private static void needOldEnough(Show show, int age) {
        if (age < show.film.age) {
            throw new IllegalStateException("too young for the film");
        }
    }

    private void needTickets(int many) {
        if (tickets.size() + many > MOST_TICKETS) {
            throw new IllegalStateException("no more tickets");
        }
    }

    private void needTicket(int number) {
        if (number < 0 || number >= tickets.size()) {
            throw new IndexOutOfBoundsException("no such ticket");
        }
    }

    private void needHold(int number) {
        if (number < 0 || number >= holds.size()) {
            throw new IndexOutOfBoundsException("no such hold");
        }
    }

    private Hall hallAt(int number) {
        if (number < 0 || number >= halls.size()) {
            throw new IndexOutOfBoundsException("no such hall");
        }
        return halls.get(number);
    }

    private Film filmAt(int number) {
        if (number < 0 || number >= films.size()) {
            throw new IndexOutOfBoundsException("no such film");
        }
        return films.get(number);
    }

    private Show showAt(int number) {
        if (number < 0 || number >= shows.size()) {
            throw new IndexOutOfBoundsException("no such show");
        }
        return shows.get(number);
    }

    private Ticket ticketAt(int number) {
        needTicket(number);
        return tickets.get(number);
    }

    private Hold openHoldAt(int number) {
        needHold(number);
        Hold hold = holds.get(number);
        if (hold.hasEnded) {
            throw new IllegalStateException("the hold has ended");
        }
        return hold;
    }

    private static int placeAt(Show show, int row, int seat) {
        if (row < 0 || row >= show.hall.rows || seat < 0 || seat >= show.hall.seats) {
            throw new IndexOutOfBoundsException("no such row or seat");
        }
        return row * show.hall.seats + seat;
    }

    // ---- whether shows fit

    private int reasonAgainst(Film film, Hall hall, int start) {
        if (!isOpen(film, hall, start)) {
            return 1;
        }
        if (isHallTaken(film, hall, start)) {
            return 2;
        }
        if (isTooCloseToOthers(hall, start)) {
            return 3;
        }
        return isLampTooOld(film, hall) ? 4 : 0;
    }

    private boolean isOpen(Film film, Hall hall, int start) {
        for (int i = 0; i < keys.size(); i++) {
            Key key = keys.get(i);
            if (key.film == film.number && key.hall == hall.number
                    && key.from <= start && key.to >= start + film.length) {
                return true;
            }
        }
        return false;
    }

    private boolean isHallTaken(Film film, Hall hall, int start) {
        int end = start + film.length;
        for (int i = 0; i < shows.size(); i++) {
            Show other = shows.get(i);
            if (other.hall.number == hall.number && other.isToCome()
                    && other.end() + PAUSE > start && end + PAUSE > other.start) {
                return true;
            }
        }
        return false;
    }

    private boolean isTooCloseToOthers(Hall hall, int start) {
        for (int i = 0; i < shows.size(); i++) {
            Show other = shows.get(i);
            if (other.hall.number != hall.number && other.isToCome()
                    && Math.abs(other.start - start) < spreadMinutes) {
                return true;
            }
        }
        return false;
    }

    private boolean isLampTooOld(Film film, Hall hall) {
        int burned = hall.burned + film.length;
        for (int i = 0; i < shows.size(); i++) {
            Show other = shows.get(i);
            if (other.hall.number == hall.number && other.isToCome()) {
                burned += other.film.length;
            }
        }
        return burned > hall.mayBurn;
    }

    /** A start that does not fit can fit later only from a minute on at which a key begins or a show is out of the way. */
    private int nextChance(int start) {
        int next = LAST_MINUTE + 1;
        for (int i = 0; i < keys.size(); i++) {
            next = nearerAhead(start, next, keys.get(i).from);
        }
        for (int i = 0; i < shows.size(); i++) {
            Show other = shows.get(i);
            next = nearerAhead(start, next, other.end() + PAUSE);
            next = nearerAhead(start, next, other.start + spreadMinutes);
        }
        return next;
    }

    private static int nearerAhead(int from, int nearest, int other) {
        return other > from && other < nearest ? other : nearest;
    }

    private int runningIn(Hall hall) {
        for (int i = 0; i < shows.size(); i++) {
            Show show = shows.get(i);
            if (show.hall.number == hall.number && show.state == RUNNING) {
                return i;
            }
        }
        return NONE;
    }

    // ---- how minutes go by

    private int nextChange(int target) {
        int next = target;
        for (int i = 0; i < holds.size(); i++) {
            Hold hold = holds.get(i);
            if (!hold.hasEnded) {
                next = nearerAhead(minute, next, hold.until);
            }
        }
        for (int i = 0; i < shows.size(); i++) {
            Show show = shows.get(i);
            if (show.isToCome()) {
                next = nearerAhead(minute, next, show.state == PLANNED ? show.start : show.end());
            }
        }
        return next;
    }

    private void endHolds() {
        for (int i = 0; i < holds.size(); i++) {
            Hold hold = holds.get(i);
            if (!hold.hasEnded && hold.until == minute) {
                endUnbought(hold);
            }
        }
    }

    private void endShows() {
        for (int i = 0; i < shows.size(); i++) {
            Show show = shows.get(i);
            if (show.state == RUNNING && show.end() == minute) {
                show.hall.burned += show.film.length;
                show.state = OVER;
            }
        }
    }

    private void startShows() {
        for (int i = 0; i < shows.size(); i++) {
            Show show = shows.get(i);
            if (show.state == PLANNED && show.start == minute) {
                show.line.clearAway();
                show.state = RUNNING;
            }
        }
    }

    // ---- how seats change hands

    private int addTicket(Show show, int place, int age) {
        int number = tickets.size();
        int price = show.priceFor(age);
        tickets.add(new Ticket(show, place, age, price));
        show.places[place] = number;
        show.paid += price;
        return number;
    }

    private int endUnbought(Hold hold) {
        hold.hasEnded = true;
        return freePlace(hold.show, hold.place);
    }

    /** Returns the ticket by which the place goes to the line, NONE if it stays free. */
    private int freePlace(Show show, int place) {
        show.places[place] = NONE;
        if (show.line.size == 0 || tickets.size() >= MOST_TICKETS) {
            return NONE;
        }
        return addTicket(show, place, show.line.takeFirst());
    }

    private int countOpenHolds() {
        int count = 0;
        for (int i = 0; i < holds.size(); i++) {
            if (!holds.get(i).hasEnded) {
                count++;
            }
        }
        return count;
    }

    // ---- what is paid

    private int paidFor(int from, int to) {
        int sum = 0;
        for (int i = Math.max(from, 0); i <= to && i < tickets.size(); i++) {
            sum += tickets.get(i).paid;
        }
        return sum;
    }

    private int openingOf(Film film) {
        int opening = NONE;
        for (int i = 0; i < shows.size(); i++) {
            Show show = shows.get(i);
            if (show.film.number == film.number && show.state != CANCELLED
                    && (opening == NONE || show.week() < opening)) {
                opening = show.week();
            }
        }
        return opening;
    }

    private int takenIn(Film film, int week) {
        int opening = openingOf(film);
        if (opening == NONE) {
            return 0;
        }
        int sum = 0;
        for (int i = 0; i < shows.size(); i++) {
            Show show = shows.get(i);
            if (show.film.number == film.number && show.week() == opening + week) {
                sum += show.paid;
            }
        }
        return sum;
    }

    private static final class Hall {
        final int number;
        final int rows;
        final int seats;
        int burned = 0;
        int mayBurn = 5000;

        Hall(int number, int rows, int seats) {
            this.number = number;
            this.rows = rows;
            this.seats = seats;
        }
    }

    private static final class Film {
        final int number;
        final int length;
        final int age;
        final int price;
        int first = 50;
        int step = 0;
        int floor = 50;
        int nut = 0;
        int keep = 0;

        Film(int number, int length, int age, int price) {
            this.number = number;
            this.length = length;
            this.age = age;
            this.price = price;
        }

        int ownersOf(int taken, int week) {
            int part = Math.max(first - week * step, floor);
            int above = Math.max(taken - nut, 0);
            return Math.max(part * above / 100, floor * taken / 100);
        }
    }

    private static final class Key {
        final int film;
        final int hall;
        final int from;
        final int to;

        Key(int film, int hall, int from, int to) {
            this.film = film;
            this.hall = hall;
            this.from = from;
            this.to = to;
        }
    }

    private static final class Show {
        final int number;
        final Film film;
        final Hall hall;
        final int start;
        final int[] places;
        final Line line = new Line();
        int state = PLANNED;
        int paid = 0;

        Show(int number, Film film, Hall hall, int start) {
            this.number = number;
            this.film = film;
            this.hall = hall;
            this.start = start;
            int[] free = new int[hall.rows * hall.seats];
            Arrays.fill(free, NONE);
            this.places = free;
        }

        int end() {
            return start + film.length;
        }

        int week() {
            return start / WEEK;
        }

        boolean isToCome() {
            return state == PLANNED || state == RUNNING;
        }

        int priceFor(int age) {
            int price = film.price;
            if (start % DAY < EVENING) {
                price = price * 3 / 4;
            }
            return age < GROWN ? price / 2 : price;
        }

        // Each row has a seat at least, so max changes nothing: it shows that the divisor is never 0.
        int rowOf(int place) {
            return place / Math.max(hall.seats, 1);
        }

        int seatOf(int place) {
            return place % Math.max(hall.seats, 1);
        }

        int countFree() {
            int count = 0;
            for (int i = 0; i < places.length; i++) {
                if (places[i] == NONE) {
                    count++;
                }
            }
            return count;
        }

        int countHeld() {
            int count = 0;
            for (int i = 0; i < places.length; i++) {
                if (places[i] >= HELD) {
                    count++;
                }
            }
            return count;
        }

        int countSold() {
            return places.length - countFree() - countHeld();
        }

        void clearPlaces() {
            Arrays.fill(places, NONE);
        }

        /** Returns the first place of the seats for a group, NONE if there are no such seats. */
        int placeForGroup(int many) {
            for (int row = 0; row < hall.rows; row++) {
                int best = bestInRow(row, many);
                if (best != NONE) {
                    return row * hall.seats + best;
                }
            }
            return NONE;
        }

        private int bestInRow(int row, int many) {
            int best = NONE;
            int least = 0;
            for (int seat = 0; seat + many <= hall.seats; seat++) {
                int off = Math.abs(2 * seat + many - hall.seats);
                if (areFree(row * hall.seats + seat, many) && (best == NONE || off < least)) {
                    best = seat;
                    least = off;
                }
            }
            return best;
        }

        private boolean areFree(int place, int many) {
            for (int i = place; i < place + many; i++) {
                if (i >= places.length || places[i] != NONE) {
                    return false;
                }
            }
            return true;
        }
    }

    private static final class Hold {
        final Show show;
        final int place;
        final int until;
        boolean hasEnded = false;

        Hold(Show show, int place, int until) {
            this.show = show;
            this.place = place;
            this.until = until;
        }
    }

    private static final class Ticket {
        final Show show;
        final int place;
        final int age;
        int paid;
        boolean isGivenBack = false;

        Ticket(Show show, int place, int age, int paid) {
            this.show = show;
            this.place = place;
            this.age = age;
            this.paid = paid;
        }

        /** What is paid is kept twice, for the ticket and for its show: here both become less. */
        int payBack(int amount) {
            paid -= amount;
            show.paid -= amount;
            return amount;
        }
    }

    /** The ages of those who wait: the members stand in the first places, all others behind them. */
    private static final class Line {
        private final int[] ages = new int[MOST_IN_LINE];
        private int members = 0;
        int size = 0;

        /** Returns how many are ahead; somebody who comes to a full line is not let in. */
        int comeIn(int age, boolean isMember) {
            int ahead = isMember ? members : size;
            if (size >= ages.length || ahead > size) {
                return NONE;
            }
            for (int i = size; i > ahead; i--) {
                ages[i] = ages[i - 1];
            }
            ages[ahead] = age;
            size++;
            if (isMember) {
                members++;
            }
            return ahead;
        }

        /** Returns the age of the one who leaves, NONE if nobody is there. */
        int takeFirst() {
            if (size <= 0) {
                return NONE;
            }
            int age = ages[0];
            size--;
            for (int i = 0; i < size; i++) {
                ages[i] = ages[i + 1];
            }
            members = Math.max(members - 1, 0);
            return age;
        }

        void clearAway() {
            size = 0;
            members = 0;
        }
    }
}

import java.lang.reflect.Array;
import java.lang.reflect.Field;
import java.lang.reflect.Modifier;
import java.util.ArrayDeque;
import java.util.Collections;
import java.util.Deque;
import java.util.IdentityHashMap;
import java.util.Set;

/** All calls of one run live in one room: what a house is made of, and what its dearest calls make. */
public final class RoomTest {
    private static final int CALLS = 512;
    private static final long MOST_OBJECTS = 600000L;
    private static final long MOST_ELEMENTS = 7300000L;

    private long objects;
    private long elements;

    public static void main(String[] args) {
        aNewHouse();
        aRunOfRates();
        nothingElseGrows();
        Check.end();
    }

    private static RoomTest of(PortHouse house) {
        RoomTest room = new RoomTest();
        try {
            room.walk(house);
        } catch (IllegalAccessException e) {
            throw new IllegalStateException(e);
        }
        return room;
    }

    private void walk(Object root) throws IllegalAccessException {
        Set<Object> seen = Collections.newSetFromMap(new IdentityHashMap<>());
        Deque<Object> open = new ArrayDeque<>();
        open.push(root);
        while (!open.isEmpty()) {
            Object one = open.pop();
            if (!seen.add(one)) {
                continue;
            }
            objects++;
            if (one.getClass().isArray()) {
                addArray(one, open);
            } else {
                addFields(one, open);
            }
        }
    }

    private void addArray(Object array, Deque<Object> open) {
        int length = Array.getLength(array);
        elements += length;
        for (int i = 0; i < length && !array.getClass().getComponentType().isPrimitive(); i++) {
            if (Array.get(array, i) != null) {
                open.push(Array.get(array, i));
            }
        }
    }

    private void addFields(Object one, Deque<Object> open) throws IllegalAccessException {
        for (Field field : one.getClass().getDeclaredFields()) {
            if (Modifier.isStatic(field.getModifiers())) {
                continue;
            }
            elements++;
            field.setAccessible(true);
            if (!field.getType().isPrimitive() && field.get(one) != null) {
                open.push(field.get(one));
            }
        }
    }

    private static void aNewHouse() {
        Check.topic("a new house, the greatest that can be, leaves room for a score of others");
        RoomTest room = of(new PortHouse(12, 4, 20, 8, 400));
        Check.due(true, 20 * room.objects < MOST_OBJECTS);
        Check.due(true, 20 * room.elements < MOST_ELEMENTS);
    }

    // A rate is the one thing that calls make anew: 60 nodes, or as many rows of steps as 400 signs can have.
    private static void aRunOfRates() {
        Check.topic("512 calls that each made the dearest rate");
        long dearest = 0;
        StringBuilder shares = new StringBuilder("1%");
        StringBuilder steps = new StringBuilder("step(1:1=1,2=1,3=1,4=1,5=1,6=1)");
        while (shares.length() < 88) {
            shares.append("+1%");
        }
        while (steps.length() < 360) {
            steps.append("+step(1:1=1,2=1,3=1,4=1,5=1,6=1)");
        }
        for (String text : new String[] {shares.toString(), steps.toString()}) {
            PortHouse house = Tape.house("free");
            RoomTest ahead = of(house);
            Check.due(true, Tape.rate(house, house.row(34, 0, 0, 0, 0, 0, 0), text) > 0);
            RoomTest behind = of(house);
            Check.due(3, behind.objects - ahead.objects);
            dearest = Math.max(dearest, behind.elements - ahead.elements);
        }
        RoomTest made = of(new PortHouse(12, 4, 20, 8, 400));
        Check.due(true, made.elements + CALLS * dearest < MOST_ELEMENTS);
    }

    private static void nothingElseGrows() {
        Check.topic("no other call makes anything that is kept");
        PortHouse house = Tape.house("5%");
        RoomTest ahead = of(house);
        int box = Quay.loose(house, 0, 10, 5, 1);
        house.guarantee(0, 1000000, 1, 1, false, 100);
        int order = house.order(100, 0, 400);
        int declaration = house.declare(house.goods(box, 10), 0, 0, 123456, 0, 5, 1000);
        Check.due(1, house.ask(declaration, order, 200));
        Check.due(1, house.run(order, 10));
        Check.due(25, house.assess(declaration, 0));
        Check.due(0, house.pay(declaration, 0));
        Check.due(1, house.reverse(0, 0));
        Check.due(2, house.print(1));
        RoomTest behind = of(house);
        Check.due(ahead.objects, behind.objects);
        Check.due(ahead.elements, behind.elements);
    }
}

/** The four examples of the document, and the one of README.md. */
public final class ExamplesTest {
    private ExamplesTest() {
    }

    public static void main(String[] args) {
        dryStop();
        ice();
        faultySensor();
        planAndExceptions();
        readme();
        Check.end();
    }

    private static void dryStop() {
        AntilockBrakes x = new AntilockBrakes();
        Check.due("1: frictionFor(0, 150)", 1000, () -> x.frictionFor(0, 150));
        Check.due("1: frictionFor(0, 1000)", 750, () -> x.frictionFor(0, 1000));
        Check.due("1: setSpeed", 0, () -> x.setSpeed(20000));
        Check.due("1: setDemand", 0, () -> x.setDemand(800));
        Check.due("1: run", 20000, () -> x.run(1));
        Check.due("1: car(0)", 20000, () -> x.car(0));
        Check.due("1: wheel(0, 0)", 20000, () -> x.wheel(0, 0));
        Check.due("1: wheel(0, 1)", 40, () -> x.wheel(0, 1));
        Check.due("1: stop", 285, x::stop);
        Check.due("1: car(1)", 28834, () -> x.car(1));
        Check.due("1: wheel(0, 6)", 0, () -> x.wheel(0, 6));
    }

    private static void ice() {
        AntilockBrakes x = new AntilockBrakes();
        Check.due("2: addSegment", 1, () -> x.addSegment(0, 2, 2));
        Check.due("2: setSpeed", 0, () -> x.setSpeed(20000));
        Check.due("2: setDemand", 0, () -> x.setDemand(1500));
        Check.due("2: run", 19564, () -> x.run(40));
        Check.due("2: wheel(0, 2)", 4, () -> x.wheel(0, 2));
        Check.due("2: wheel(0, 1)", 120, () -> x.wheel(0, 1));
        Check.due("2: wheel(0, 10)", 38, () -> x.wheel(0, 10));
        Check.due("2: event(0, 1)", 0, () -> x.event(0, 1));
        Check.due("2: event(0, 2)", 1, () -> x.event(0, 2));
        Check.due("2: car(5)", 580, () -> x.car(5));
        Check.due("2: stopDistance", 221229, () -> x.stopDistance(20000, 22, 1500, false));
    }

    private static void faultySensor() {
        AntilockBrakes x = new AntilockBrakes();
        Check.due("3: setSpeed", 0, () -> x.setSpeed(15000));
        Check.due("3: setFault", 0, () -> Check.number(x.setFault(1, true)));
        Check.due("3: run", 15000, () -> x.run(25));
        Check.due("3: wheel(1, 7)", 1, () -> x.wheel(1, 7));
        Check.due("3: event(0, 1)", 1, () -> x.event(0, 1));
        Check.due("3: event(0, 2)", 1, () -> x.event(0, 2));
        Check.due("3: setDemand", 0, () -> x.setDemand(900));
        Check.due("3: run", 13528, () -> x.run(30));
        Check.due("3: wheel(0, 2)", 0, () -> x.wheel(0, 2));
        Check.due("3: repair", 1, x::repair);
        Check.due("3: car(8)", 1, () -> x.car(8));
    }

    private static void planAndExceptions() {
        AntilockBrakes x = new AntilockBrakes();
        Check.due("4: plan(5, 700)", 1, () -> x.plan(5, 700));
        Check.due("4: plan(3, 300)", 2, () -> x.plan(3, 300));
        Check.due("4: planned", 2, x::planned);
        Check.due("4: run(3)", 0, () -> x.run(3));
        Check.due("4: car(3)", 300, () -> x.car(3));
        Check.due("4: run(2)", 0, () -> x.run(2));
        Check.due("4: car(3)", 700, () -> x.car(3));
        Check.due("4: planned", 0, x::planned);
        Check.due("4: plan(0, 1)", Check.ARGUMENT, () -> x.plan(0, 1));
        Check.due("4: run(1001)", Check.ARGUMENT, () -> x.run(1001));
    }

    private static void readme() {
        AntilockBrakes car = new AntilockBrakes();
        Check.due("README: addSegment, ice", 1, () -> car.addSegment(0, AntilockBrakes.ICE, AntilockBrakes.ICE));
        Check.due("README: addSegment", 2, () -> car.addSegment(30000, AntilockBrakes.DRY, AntilockBrakes.WET));
        Check.due("README: setSpeed", 0, () -> car.setSpeed(20000));
        Check.due("README: setDemand", 0, () -> car.setDemand(1500));
        Check.due("README: run", 19564, () -> car.run(40));
        Check.due("README: wheel(0, 2)", AntilockBrakes.BUILD, () -> car.wheel(0, 2));
        Check.due("README: event(0, 0)", 11, () -> car.event(0, 0));
        Check.due("README: stop", 456, car::stop);
        Check.due("README: car(1)", 60912, () -> car.car(1));
        Check.due("README: undo", 2, car::undo);
        Check.due("README: car(0)", 19564, () -> car.car(0));
        Check.due("README: stopDistance, on", 177945, () -> car.stopDistance(20000, 22, 1500, true));
        Check.due("README: stopDistance, off", 221229, () -> car.stopDistance(20000, 22, 1500, false));
    }
}

/** The program that README.md shows. */
public final class ReadmeProgram {
    public static void main(String[] args) {
        ConventionInference x = new ConventionInference();
        setBody(x, 1, "m01");               // function 1 moves register 1 to register 0
        setBody(x, 0, "c1;u0");             // function 0 calls function 1, then uses register 0
        System.out.println(x.preserved(1)); // 254
        System.out.println(x.arguments(0)); // 2
        System.out.println(x.results(1));   // 1
        System.out.println(x.role(0));      // 2
        System.out.println(x.run(0, 0));    // 3
        System.out.println(x.observed());   // 254
        System.out.println(x.origin(0));    // 1
    }

    private static void setBody(ConventionInference x, int function, String body) {
        for (int i = 0; i < body.length(); i++) {
            x.appendCharacter(body.charAt(i));
        }
        x.setBody(function);
    }
}
